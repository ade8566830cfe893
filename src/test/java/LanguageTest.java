import java.io.IOException;
import java.nio.file.Files;
import java.nio.file.Path;
import java.util.Set;
import java.util.TreeSet;
import java.util.regex.Matcher;
import java.util.regex.Pattern;

/** What of ../shared/LANGUAGE.md can be seen in the text of the class: words and signs that it rules out. */
public final class LanguageTest {
    private static int wrong;

    public static void main(String[] args) throws IOException {
        String source = Files.readString(Path.of("src/main/java/ChildLetters.java"));
        String code = source.replaceAll("(?s)/\\*.*?\\*/", "").replaceAll("//[^\n]*", "");
        none(code, "\\b(throw|throws|try|catch|finally|synchronized|assert|import|package|native|volatile)\\b");
        none(code, "->|::|\\bdefault\\s+\\w+\\s*\\(|@\\w+");
        none(code, "\\b(Object|Thread|System\\.(?!arraycopy)|Random|Exception|\\w*Exact|hashCode|toString)\\b");
        none(code, "\\b(float|double|String)\\b");
        none(code, "\\bstatic\\s+\\{");
        none(code, "[^\\x00-\\x7f]");
        none(code, "\\b(protected)\\b");
        publicFace(code);
        sizes(code);
        System.out.println("LanguageTest: " + wrong + " against the rules");
        if (wrong != 0) {
            System.exit(1);
        }
    }

    private static void tell(String what) {
        wrong++;
        System.out.println(what);
    }

    private static void none(String code, String pattern) {
        Matcher m = Pattern.compile(pattern).matcher(code);
        while (m.find()) {
            tell("not to stand there: " + m.group());
        }
    }

    /** Nothing is public but the face, and no other method bears the name of one of the face. */
    private static void publicFace(String code) {
        Set<String> face = Set.of("village", "giver", "child", "pair", "end", "number", "feed", "rules", "look", "found",
                "letter", "translator", "day", "decide", "lose", "about", "hints", "unlike", "lag", "gift", "coin",
                "project", "choice", "build", "leaves", "left", "amiss", "silent", "wish", "pairing", "trial", "outcome",
                "doubt", "of", "count");
        Set<String> seen = new TreeSet<>();
        Matcher m = Pattern.compile("\\n( +)(public )?((?:private |static |final )*)(\\w+(?:\\[\\])?) (\\w+)\\(").matcher(code);
        while (m.find()) {
            if (m.group(4).equals("return") || m.group(4).equals("new") || m.group(4).equals("else")) {
                continue;
            }
            if (m.group(2) != null) {
                seen.add(m.group(5));
            } else if (face.contains(m.group(5))) {
                tell("bears the name of a public one: " + m.group(5));
            }
        }
        if (!seen.equals(new TreeSet<>(face))) {
            tell("the face is " + seen);
        }
    }

    /** At most some twelve classes, seven parameters a method, sixty lines a method. */
    private static void sizes(String code) {
        long classes = Pattern.compile("\\bclass \\w+").matcher(code).results().count();
        if (classes > 12) {
            tell(classes + " classes");
        }
        Matcher m = Pattern.compile("\\n( {4}| {8})\\S[^\\n;=]*\\(([^)]*)\\) \\{\\n(.*?)\\n\\1\\}", Pattern.DOTALL).matcher(code);
        int methods = 0;
        while (m.find()) {
            methods++;
            if (m.group(2).split(",").length > 7 || m.group(3).split("\n").length > 60) {
                tell("too large: " + m.group().substring(0, 60));
            }
        }
        if (methods < 100) {
            tell("only " + methods + " methods seen");
        }
    }
}
