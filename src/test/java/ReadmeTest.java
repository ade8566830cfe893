import java.io.IOException;
import java.lang.reflect.InvocationTargetException;
import java.net.URL;
import java.net.URLClassLoader;
import java.nio.file.Files;
import java.nio.file.Path;
import java.util.ArrayList;
import java.util.List;
import java.util.regex.Matcher;
import java.util.regex.Pattern;
import java.util.stream.Stream;
import javax.tools.JavaCompiler;
import javax.tools.ToolProvider;

/** What README.md says: its example compiles and each call answers as told beside it, and it names every test. */
public final class ReadmeTest {
    private static final Pattern CALL = Pattern.compile("(?:(?:int|long|boolean) (\\w+) = )?(office\\.\\w+\\(.*\\));");
    private static final Pattern TOLD = Pattern.compile("(-?\\d+|true|false)(:.*)?");

    private static int wrong;

    public static void main(String[] args) throws Exception {
        String readme = Files.readString(Path.of("README.md"));
        List<String> example = exampleOf(readme);
        List<String> asked = withAnswersAsked(example);
        if (asked.size() < 30) {
            tell("only " + asked.size() + " lines of an example");
        }
        if (wrong == 0) {
            run(asked);
        }
        namesTests(readme);
        System.out.println("ReadmeTest: " + asked.size() + " lines, " + wrong + " not as README.md says");
        if (wrong != 0) {
            System.exit(1);
        }
    }

    private static void tell(String what) {
        wrong++;
        System.out.println(what);
    }

    /** Called by the example's own class, with each answer. */
    public static void due(String line, Object got, Object told) {
        if (!String.valueOf(got).equals(String.valueOf(told))) {
            tell(line + " answered " + got);
        }
    }

    private static List<String> exampleOf(String readme) {
        Matcher block = Pattern.compile("```java\\n(.*?)```", Pattern.DOTALL).matcher(readme);
        List<String> lines = new ArrayList<>();
        while (block.find()) {
            lines.addAll(block.group(1).lines().filter(line -> !line.isBlank()).toList());
        }
        return lines;
    }

    /** The same lines, each call of the office with the answer that stands beside it. */
    private static List<String> withAnswersAsked(List<String> example) {
        List<String> asked = new ArrayList<>();
        for (String line : example) {
            String[] parts = line.split("//", 2);
            Matcher call = CALL.matcher(parts[0].trim());
            Matcher told = TOLD.matcher(parts.length == 2 ? parts[1].trim() : "");
            if (parts[0].trim().equals("ChildLetters office = new ChildLetters();")) {
                asked.add(parts[0].trim());
            } else if (!call.matches() || !told.matches()) {
                tell("no call with an answer beside it: " + line);
            } else {
                String quoted = parts[0].trim().replace("\\", "\\\\").replace("\"", "\\\"");
                boolean named = call.group(1) != null;
                asked.add((named ? parts[0].trim() : "")
                        + "ReadmeTest.due(\"" + quoted + "\", " + (named ? call.group(1) : call.group(2)) + ", " + told.group(1) + ");");
            }
        }
        return asked;
    }

    private static void run(List<String> asked) throws IOException, ReflectiveOperationException {
        Path dir = Files.createTempDirectory("readme");
        Path source = dir.resolve("ReadmeExample.java");
        try {
            Files.writeString(source, "public final class ReadmeExample {\n    public static void main(String[] args) {\n"
                    + String.join("\n", asked) + "\n    }\n}\n");
            JavaCompiler javac = ToolProvider.getSystemJavaCompiler();
            String path = System.getProperty("java.class.path");
            if (javac.run(null, null, null, "-cp", path, "-d", dir.toString(), source.toString()) != 0) {
                tell("the example does not compile");
                return;
            }
            try (URLClassLoader loader = new URLClassLoader(new URL[] {dir.toUri().toURL()}, ReadmeTest.class.getClassLoader())) {
                loader.loadClass("ReadmeExample").getMethod("main", String[].class).invoke(null, (Object) new String[0]);
            } catch (InvocationTargetException thrown) {
                tell("the example threw " + thrown.getCause());
            }
        } finally {
            removeAll(dir);
        }
    }

    private static void removeAll(Path dir) throws IOException {
        try (Stream<Path> files = Files.list(dir)) {
            for (Path file : files.toList()) {
                Files.delete(file);
            }
        }
        Files.delete(dir);
    }

    /** Every test is named, none is named that isn't there, and so is the way to run them. */
    private static void namesTests(String readme) throws IOException {
        List<String> there = new ArrayList<>();
        try (Stream<Path> files = Files.list(Path.of("src/test/java"))) {
            files.map(f -> f.getFileName().toString().replace(".java", "")).filter(n -> n.endsWith("Test")).forEach(there::add);
        }
        for (String name : there) {
            if (!readme.contains("`" + name + "`")) {
                tell("README.md does not name " + name);
            }
        }
        Matcher named = Pattern.compile("`(\\w+Test)`").matcher(readme);
        while (named.find()) {
            if (!there.contains(named.group(1))) {
                tell("README.md names " + named.group(1) + ", which is not there");
            }
        }
        if (!readme.contains("`bash .ci/run`") || !Files.isExecutable(Path.of(".ci/run"))) {
            tell("README.md does not say how to run the tests");
        }
    }
}
