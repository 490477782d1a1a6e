import java.lang.reflect.Method;
import java.util.ArrayList;
import java.util.Arrays;
import java.util.HashMap;
import java.util.List;
import java.util.Map;

/** What the edge tests share: the sentence that is looked at, answers that are due, and faults. */
abstract class EdgeCheck {
    private static final Map<String, Method> METHODS = new HashMap<>();

    /** The object that is looked at; each sentence has a new one. */
    protected static NoiseShaper x;
    private static String sentence = "";
    private static int sentences;
    private static int wrong;

    static {
        for (Method method : NoiseShaper.class.getDeclaredMethods()) {
            METHODS.put(method.getName(), method);
        }
    }

    /** Begins the test of a sentence of the document. */
    protected static void sentence(String text) {
        sentence = text;
        sentences++;
        x = new NoiseShaper();
    }

    protected static void is(String what, long got, long want) {
        if (got != want || x.status() != 0) {
            fault(what + " answered " + got + " with status " + x.status() + ", due is " + want + " with status 0");
        }
    }

    protected static void no(String what, long got, int status) {
        if (got != NoiseShaper.NONE || x.status() != status) {
            fault(what + " answered " + got + " with status " + x.status() + ", due is -1 with status " + status);
        }
    }

    /** All that a stage told since it began, the eldest first, and that there is nothing ahead of it. */
    protected static void toldIs(int stage, long... want) {
        is("told of stage " + stage, x.told(stage), want.length);
        for (int i = 0; i < want.length; i++) {
            is("number " + i + " of stage " + stage, x.latest(stage, want.length - 1 - i), want[i]);
        }
        no("a number ahead of the first of stage " + stage, x.latest(stage, want.length), 5);
    }

    protected static void statesAre(long... want) {
        for (int i = 0; i < want.length; i++) {
            is("state " + i, x.state(i), want[i]);
        }
    }

    protected static void manyClocks(int hundreds) {
        for (int i = 0; i < hundreds; i++) {
            x.clocks(100);
        }
    }

    /** Errors fed back, order 1, at a number that is a value: it tells y at each clock, with m - 1 elements. */
    protected static void alwaysTelling(int y, int m) {
        x.loop(0, 1, 100, m, 60000, false);
        x.source(0, 100 * (2 * y + 1 - m), 0, 1);
    }

    protected static void fault(String text) {
        wrong++;
        System.out.println("\"" + sentence + "\": " + text);
    }

    protected static void end() {
        System.out.println(wrong == 0 ? sentences + " sentences hold" : wrong + " answers are not as due");
        if (wrong != 0) {
            System.exit(1);
        }
    }

    // ---- calls by name

    protected static long call(NoiseShaper of, String name, int... arguments) {
        Method method = METHODS.get(name);
        Object[] all = new Object[arguments.length];
        for (int i = 0; i < all.length; i++) {
            boolean isInt = method.getParameterTypes()[i] == int.class;
            all[i] = isInt ? (Object) arguments[i] : (Object) (arguments[i] != 0);
        }
        try {
            return ((Number) method.invoke(of, all)).longValue();
        } catch (ReflectiveOperationException thrown) {
            fault(text(name, arguments) + " threw " + thrown.getCause());
            return 0;
        }
    }

    protected static String text(String name, int... arguments) {
        return name + Arrays.toString(arguments).replace('[', '(').replace(']', ')');
    }

    // ---- all that can be read

    /** Answers of every call that changes nothing; some 300 calls, so that an object has one picture alone. */
    protected static List<String> picture(NoiseShaper of) {
        List<String> lines = new ArrayList<>();
        for (int stage = 0; stage < 7; stage++) {
            read(lines, of, "told", stage);
            for (int i : new int[] {0, 1, 2, 47}) {
                read(lines, of, "latest", stage, i);
            }
            for (int what = 0; what < 3; what++) {
                read(lines, of, "range", stage, what);
            }
            read(lines, of, "steady", stage, 40);
        }
        pictureOfLoop(lines, of);
        pictureOfParts(lines, of);
        pictureOnPaper(lines, of);
        return lines;
    }

    private static void pictureOfLoop(List<String> lines, NoiseShaper of) {
        for (int what = 0; what < 14; what++) {
            read(lines, of, "state", what);
        }
        for (int what = 0; what < 6; what++) {
            read(lines, of, "sum", what);
        }
        read(lines, of, "gap", 0, 1);
        read(lines, of, "gap", 1, 1);
        for (int n : new int[] {1, 2, 48}) {
            read(lines, of, "gap", 2, n);
        }
        for (int i = 0; i < 12; i++) {
            read(lines, of, "asked", i);
        }
        for (int stage = 0; stage < 3; stage++) {
            read(lines, of, "beat", stage, 1);
            read(lines, of, "tonal", stage);
        }
    }

    private static void pictureOfParts(List<String> lines, NoiseShaper of) {
        read(lines, of, "spread");
        for (int element = 0; element < 16; element++) {
            for (int what = 0; what < 5; what++) {
                read(lines, of, "element", element, what);
            }
        }
        for (int i = 0; i < 5; i++) {
            read(lines, of, "combed", i);
        }
        for (int what = 0; what < 2; what++) {
            read(lines, of, "wrong", what);
            for (int fold = 0; fold < 3; fold++) {
                read(lines, of, "work", fold, what);
            }
        }
        read(lines, of, "need", 1);
        for (int i : new int[] {0, 1, 2, 4, 76}) {
            read(lines, of, "response", i);
        }
        for (int what = 0; what < 4; what++) {
            read(lines, of, "half", 3, what);
        }
    }

    private static void pictureOnPaper(List<String> lines, NoiseShaper of) {
        for (int t = 0; t < 9; t++) {
            read(lines, of, "out", 33, t);
        }
        read(lines, of, "idle", 30, 3, 1000, 1);
        for (int y = 0; y <= 16; y++) {
            read(lines, of, "next", y);
        }
        for (int what = 0; what < 3; what++) {
            read(lines, of, "ahead", 20, what, what);
        }
        read(lines, of, "strain", 20, 60);
        read(lines, of, "calmed", 5, 400);
    }

    private static void read(List<String> lines, NoiseShaper of, String name, int... arguments) {
        long answer = call(of, name, arguments);
        String status = answer == NoiseShaper.NONE ? " with status " + of.status() : "";
        lines.add(text(name, arguments) + " answered " + answer + status);
    }

    protected static void same(String what, List<String> got, List<String> want) {
        for (int i = 0; i < want.size(); i++) {
            if (!got.get(i).equals(want.get(i))) {
                fault(what + ": " + got.get(i) + ", due is " + want.get(i));
                return;
            }
        }
    }
}
