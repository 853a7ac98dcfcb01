import java.lang.reflect.Array;
import java.lang.reflect.Field;
import java.lang.reflect.Modifier;
import java.util.ArrayDeque;
import java.util.ArrayList;
import java.util.Collections;
import java.util.Deque;
import java.util.IdentityHashMap;
import java.util.List;
import java.util.Set;

/**
 * "The same calls always give the same answers" (LANGUAGE.md, 13): objects share nothing. And the room:
 * what an object is made of is few, and calls make nothing more.
 */
public final class ObjectsTest {
    private static final Check check = new Check("ObjectsTest");
    private static final String FIRST = "o5;f1;p5;p5;p8;d0 5 0 9 3;d0 8 2 30 4;d2 8 2 30 5;";
    private static final String SECOND = "o9;f0;p9;p2;d1 2 0 99 20;d0 4 0 50 7;d0 9 0 0 1;";
    private static final int CALLS = 60;
    // Three thousand objects would still find room among 600,000 and 7.3 million.
    private static final int MOST_OBJECTS = 200;
    private static final int MOST_ELEMENTS = 2400;

    public static void main(String[] args) {
        sameCallsSameAnswers();
        objectsShareNothing();
        roomOfAnObject();
        check.finish();
    }

    /** A run that comes through all calls; the numbers are mixed by the call's place in it. */
    private static long call(LentCourage x, int i) {
        int n = i * 7 % 11;
        return switch (i % 15) {
            case 0 -> x.lends(n % 3);
            case 1 -> x.does(n % 3);
            case 2 -> x.keeps(1 + n % 2);
            case 3 -> x.walks(new int[] {5, 8, 9, 2, 4}[n % 5]);
            case 4 -> x.hears(n % 3, n * 5);
            case 5 -> x.lends(i / 15 % 3);
            case 6 -> x.mark(n % 6, n % 2);
            case 7 -> x.keep(n % 2);
            case 8 -> x.does(i / 15 % 3);
            case 9 -> x.undo();
            case 10 -> x.had(n * 4) + 1000L * x.lies();
            case 11 -> x.round(n % 4 - 3);
            case 12 -> x.back(n % 2);
            case 13 -> x.type("p;1".charAt(n % 3));
            default -> x.brings() + 1000L * x.drawn(n * 999, 20);
        };
    }

    private static List<Long> answers(String text) {
        LentCourage x = Check.port(text);
        List<Long> all = new ArrayList<>();
        for (int i = 0; i < CALLS; i++) {
            all.add(call(x, i));
        }
        return all;
    }

    private static void sameCallsSameAnswers() {
        List<Long> once = answers(FIRST);
        List<Long> again = answers(FIRST);
        for (int i = 0; i < CALLS; i++) {
            check.due("call " + i + " of a second object", again.get(i), once.get(i));
        }
    }

    private static void objectsShareNothing() {
        List<Long> first = answers(FIRST);
        List<Long> second = answers(SECOND);
        LentCourage x = Check.port(FIRST);
        LentCourage y = Check.port(SECOND);
        for (int i = 0; i < CALLS; i++) {
            check.due("call " + i + " of the first of two", call(x, i), first.get(i));
            check.due("call " + i + " of the second of two", call(y, i), second.get(i));
            new LentCourage().type('p');
        }
    }

    private static void roomOfAnObject() {
        LentCourage x = new LentCourage();
        int[] made = room(x);
        check.due("few objects: " + made[0], made[0] <= MOST_OBJECTS ? 1 : 0, 1);
        check.due("few fields and elements: " + made[1], made[1] <= MOST_ELEMENTS ? 1 : 0, 1);
        Check.read(x, FIRST);
        for (int i = 0; i < CALLS; i++) {
            call(x, i);
        }
        Check.everything(x);
        int[] later = room(x);
        check.due("no more objects by calls", later[0], made[0]);
        check.due("no more elements by calls", later[1], made[1]);
    }

    /** How many objects and arrays, and fields and elements of these, can be come to from an object. */
    private static int[] room(Object root) {
        Set<Object> seen = Collections.newSetFromMap(new IdentityHashMap<>());
        Deque<Object> open = new ArrayDeque<>();
        seen.add(root);
        open.add(root);
        int elements = 0;
        while (!open.isEmpty()) {
            Object next = open.remove();
            for (Object part : parts(next)) {
                elements++;
                if (part != null && isOwn(part) && seen.add(part)) {
                    open.add(part);
                }
            }
        }
        return new int[] {seen.size(), elements};
    }

    private static boolean isOwn(Object part) {
        return part.getClass().isArray() || part.getClass().getName().startsWith("LentCourage");
    }

    private static List<Object> parts(Object whole) {
        List<Object> all = new ArrayList<>();
        if (whole.getClass().isArray()) {
            for (int i = 0; i < Array.getLength(whole); i++) {
                all.add(Array.get(whole, i));
            }
            return all;
        }
        for (Field f : whole.getClass().getDeclaredFields()) {
            if (!Modifier.isStatic(f.getModifiers())) {
                all.add(valueOf(f, whole));
            }
        }
        return all;
    }

    private static Object valueOf(Field f, Object whole) {
        try {
            f.setAccessible(true);
            return f.get(whole);
        } catch (IllegalAccessException e) {
            throw new IllegalStateException(e);
        }
    }
}
