import java.lang.management.ManagementFactory;
import java.lang.reflect.Constructor;
import java.lang.reflect.Field;
import java.lang.reflect.Method;
import java.lang.reflect.Modifier;
import java.nio.file.Files;
import java.nio.file.Path;
import java.util.Set;
import java.util.TreeSet;
import java.util.regex.Matcher;
import java.util.regex.Pattern;

/** The public face, the rules of LANGUAGE.md that a look at the file can tell, and the room that calls take. */
public final class FaceTest {
    private static final String[] FACE = {
        "int status()", "int source(int,int,int,int)", "int sample(int,int)",
        "int loop(int,int,int,int,int,boolean)", "int dither(int,int)", "int way(int)", "int deviation(int,int)",
        "int comb(int,int,int,int)", "int taps(int,int,int,int,int)", "int folds(int,int,int,int)", "int anew(int)",
        "int clocks(int)", "int told(int)", "int latest(int,int)", "int state(int)", "long sum(int)",
        "long gap(int,int)", "long range(int,int)", "int steady(int,int)", "int element(int,int)", "int spread()",
        "int combed(int)", "long wrong(int)", "int work(int,int)", "int need(int)", "int response(int)",
        "int half(int,int)", "long beat(int,int)", "int tonal(int)", "int tone(int,int)", "int out(int,int)",
        "int asked(int)", "int idle(int,int,int,int)", "int next(int)", "long ahead(int,int,int)",
        "int strain(int,int)", "int calmed(int,int)"};
    private static final String[] RULED_OUT = {
        "\\bthrow\\b", "\\btry\\b", "\\bcatch\\b", "\\bsynchronized\\b", "\\bassert\\b", "->", "::", "Exact\\b",
        "\\bSystem\\.(?!arraycopy\\b)", "\\bInteger\\.(MAX|MIN)", "\\bLong\\.[A-Z]", "\\bpackage\\b", "\\bprotected\\b",
        "\\bstatic\\s*\\{", "\\bRandom\\b", "\\bThread\\b", "\\bnew\\s+\\w+\\([^)]*\\)\\s*\\{", "\\bimport\\s+(?!java\\.util\\.Arrays;)"};

    private static int wrong;

    public static void main(String[] args) throws Exception {
        methods();
        fieldsAndConstructor();
        words();
        sizes();
        lengths();
        room();
        System.out.println(wrong == 0 ? "the face is as due" : wrong + " faults");
        if (wrong != 0) {
            System.exit(1);
        }
    }

    private static void fault(String text) {
        wrong++;
        System.out.println(text);
    }

    private static void methods() {
        Set<String> due = new TreeSet<>(Set.of(FACE));
        Set<String> dueNames = new TreeSet<>();
        for (String method : FACE) {
            dueNames.add(method.replaceAll("^\\w+ (\\w+).*$", "$1"));
        }
        for (Method method : NoiseShaper.class.getDeclaredMethods()) {
            StringBuilder text = new StringBuilder(method.getReturnType() + " " + method.getName() + "(");
            for (Class<?> type : method.getParameterTypes()) {
                text.append(text.charAt(text.length() - 1) == '(' ? "" : ",").append(type);
            }
            text.append(")");
            if (Modifier.isPublic(method.getModifiers())) {
                if (!due.remove(text.toString())) {
                    fault("not in the face: " + text);
                }
            } else if (!Modifier.isPrivate(method.getModifiers()) || dueNames.contains(method.getName())) {
                fault("a method that may not be so: " + text);
            }
        }
        for (String method : due) {
            fault("the face has not: " + method);
        }
        for (Class<?> inside : NoiseShaper.class.getDeclaredClasses()) {
            for (Method method : inside.getDeclaredMethods()) {
                if (Modifier.isPrivate(method.getModifiers()) && dueNames.contains(method.getName())) {
                    fault("a private method with the name of a public one: " + method);
                }
            }
        }
    }

    private static void fieldsAndConstructor() {
        for (Field field : NoiseShaper.class.getDeclaredFields()) {
            boolean isNone = field.getName().equals("NONE") && field.getType() == int.class
                    && field.getModifiers() == (Modifier.PUBLIC | Modifier.STATIC | Modifier.FINAL);
            if (!isNone && !Modifier.isPrivate(field.getModifiers())) {
                fault("a field that is not private: " + field);
            }
        }
        if (NoiseShaper.NONE != -1) {
            fault("NONE is " + NoiseShaper.NONE);
        }
        Constructor<?>[] constructors = NoiseShaper.class.getDeclaredConstructors();
        if (constructors.length != 1 || !Modifier.isPublic(constructors[0].getModifiers())
                || constructors[0].getParameterCount() != 0) {
            fault("not one public constructor without parameters");
        }
        if (!Modifier.isFinal(NoiseShaper.class.getModifiers())) {
            fault("the class is not final");
        }
        for (Class<?> inside : NoiseShaper.class.getDeclaredClasses()) {
            if (!Modifier.isStatic(inside.getModifiers()) || Modifier.isPublic(inside.getModifiers())) {
                fault("a class inside that is not static or is public: " + inside);
            }
        }
    }

    private static void words() throws Exception {
        String text = Files.readString(Path.of("src/main/java/NoiseShaper.java"));
        String code = text.replaceAll("(?s)/\\*.*?\\*/", " ").replaceAll("//[^\n]*", " ");
        for (String word : RULED_OUT) {
            Matcher matcher = Pattern.compile(word).matcher(code);
            if (matcher.find()) {
                fault("ruled out: " + matcher.group());
            }
        }
        if (text.chars().anyMatch(sign -> sign > 126)) {
            fault("a sign beyond 126");
        }
    }

    /** Rules 2, 3, 5 and 11: how many classes, fields and parameters, and of which kinds static fields are. */
    private static void sizes() {
        Class<?>[] inside = NoiseShaper.class.getDeclaredClasses();
        if (inside.length > 11) {
            fault("more than twelve classes: " + (inside.length + 1));
        }
        sizesOf(NoiseShaper.class);
        for (Class<?> one : inside) {
            sizesOf(one);
        }
    }

    private static void sizesOf(Class<?> one) {
        Set<Class<?>> kinds = Set.of(int.class, long.class, boolean.class, char.class, String.class, int[].class,
                long[].class, char[].class, byte[].class);
        int fields = 0;
        for (Field field : one.getDeclaredFields()) {
            boolean isStatic = Modifier.isStatic(field.getModifiers());
            fields += isStatic ? 0 : 1;
            if (isStatic && (!Modifier.isFinal(field.getModifiers()) || !kinds.contains(field.getType()))) {
                fault("a static field that may not be so: " + field);
            }
        }
        if (fields > 20) {
            fault(one + " has " + fields + " fields");
        }
        for (Method method : one.getDeclaredMethods()) {
            if (method.getParameterCount() > 7) {
                fault("more than seven parameters: " + method);
            }
        }
    }

    /** Rule 11: a method begins with a line that opens a brace at the depth of its class's members. */
    private static void lengths() throws Exception {
        String name = "";
        int first = 0;
        int depth = 0;
        int line = 0;
        int classDepth = 0;
        for (String text : Files.readAllLines(Path.of("src/main/java/NoiseShaper.java"))) {
            line++;
            String code = text.replaceAll("//.*", "");
            boolean isClass = Pattern.compile("\\bclass\\b.*\\{").matcher(code).find();
            int opened = code.length() - code.replace("{", "").length();
            int closed = code.length() - code.replace("}", "").length();
            if (isClass) {
                classDepth = depth + 1;
            } else if (depth == classDepth && opened > closed) {
                name = code.trim();
                first = line;
            }
            depth += opened - closed;
            if (depth == classDepth && closed > opened && line - first + 1 > 60) {
                fault("more than sixty lines: " + name);
            }
            if (depth < classDepth) {
                classDepth = depth;
            }
        }
    }

    /** No call may make objects: a run of 512 of the dearest ones has to fit into a small room. */
    private static void room() {
        var threads = (com.sun.management.ThreadMXBean) ManagementFactory.getThreadMXBean();
        long before = threads.getThreadAllocatedBytes(Thread.currentThread().getId());
        NoiseShaper x = new NoiseShaper();
        x.loop(2, 4, 4999, 2, 60000, false);
        x.folds(3, 2, 2, 2);
        x.way(2);
        for (int i = 0; i < 100; i++) {
            x.clocks(400);
            x.idle(i, 60, 1000, 0);
            x.ahead(200, 2, 0);
            x.calmed(60, 400);
            x.response(3);
        }
        long taken = threads.getThreadAllocatedBytes(Thread.currentThread().getId()) - before;
        if (taken > 1000000) {
            fault("500 calls took " + taken + " bytes");
        }
    }
}
