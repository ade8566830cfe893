import java.lang.reflect.Array;
import java.lang.reflect.Field;
import java.lang.reflect.Modifier;
import java.util.ArrayDeque;
import java.util.Collections;
import java.util.Deque;
import java.util.IdentityHashMap;
import java.util.Set;

/** All calls of one run live in one room: how many objects and elements an office holds, new and after its dearest calls. */
public final class RoomTest {
    private static final Probe P = new Probe();

    public static void main(String[] args) throws IllegalAccessException {
        newOffice();
        dearestCalls();
        callsThatMakeNothing();
        P.close("RoomTest");
    }

    /** Objects and arrays, fields and elements that an office holds. */
    private static long[] held(Object office) throws IllegalAccessException {
        Set<Object> seen = Collections.newSetFromMap(new IdentityHashMap<>());
        Deque<Object> open = new ArrayDeque<>();
        seen.add(office);
        open.add(office);
        long elements = 0;
        while (!open.isEmpty()) {
            Object one = open.remove();
            if (one.getClass().isArray()) {
                int n = Array.getLength(one);
                elements += n;
                for (int i = 0; i < n && !one.getClass().getComponentType().isPrimitive(); i++) {
                    note(Array.get(one, i), seen, open);
                }
                continue;
            }
            for (Field field : one.getClass().getDeclaredFields()) {
                if (Modifier.isStatic(field.getModifiers())) {
                    continue;
                }
                elements++;
                if (!field.getType().isPrimitive()) {
                    field.setAccessible(true);
                    note(field.get(one), seen, open);
                }
            }
        }
        return new long[] {seen.size(), elements};
    }

    private static void note(Object one, Set<Object> seen, Deque<Object> open) {
        if (one != null && seen.add(one)) {
            open.add(one);
        }
    }

    private static void newOffice() throws IllegalAccessException {
        long[] room = held(new ChildLetters());
        P.due("objects of a new office, at most 100", room[0] <= 100, true);
        P.due("elements of a new office, at most 9000", room[1] <= 9000, true);
    }

    /** 200 LETTERS of 160 signs and 40 PAIRS: more than 512 calls can make. */
    private static void dearestCalls() throws IllegalAccessException {
        P.onePair();
        while (P.x.count(4) < 39) {
            P.x.end(P.x.count(4) - 1);
            P.x.pair(0, 0);
        }
        for (int l = 0; l < 200; l++) {
            P.letter(38, 0, 1, "a".repeat(160));
            P.x.day();
        }
        long[] room = held(P.x);
        P.due("objects, at most four a LETTER and one a PAIR more", room[0] <= 100 + 4 * 200 + 40, true);
        P.due("elements, at most 200 a LETTER and 20 a PAIR more", room[1] <= 9000 + 200 * 200 + 20 * 40, true);
    }

    /** What an office holds is the same after calls that only ask, or that change what is there. */
    private static void callsThatMakeNothing() throws IllegalAccessException {
        P.onePair();
        P.x.translator(2, 0, 1, 0);
        P.letter(0, 0, 1, "aab");
        long[] before = held(P.x);
        for (int i = 0; i < 20; i++) {
            P.rules("c:a;h:(b|c)*d");
            P.put("aab");
            P.x.look(3);
            P.x.rules(1);
            P.x.day();
            P.x.project(0, 10, 1);
            P.x.gift(0, 50);
            P.x.build(0);
            P.x.leaves(0, -1);
            P.x.wish(0, 1, 1);
            P.x.pairing();
            P.x.trial(1, 1);
            P.x.outcome(0, i);
            Sight.of(P.x);
        }
        long[] behind = held(P.x);
        P.due("objects", behind[0], before[0]);
        P.due("elements", behind[1], before[1]);
    }
}
