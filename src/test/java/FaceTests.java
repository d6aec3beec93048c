import java.io.IOException;
import java.lang.management.ManagementFactory;
import java.lang.reflect.Constructor;
import java.lang.reflect.Field;
import java.lang.reflect.Method;
import java.lang.reflect.Modifier;
import java.nio.file.Files;
import java.nio.file.Path;
import java.util.Set;
import java.util.TreeSet;

/** The public face, what can be seen of LANGUAGE.md's rules, and that calls make no objects. */
public final class FaceTests {
    private static final String[] FACE = {
        "int thread(int,int)", "int tie(int,int)", "int tread(int,int)", "int colour(boolean,int,int)",
        "int feed(int,int,int,int,int)", "int end(int)", "int text()", "int fault(int)", "boolean look(int)",
        "int shaft(int)", "int lift(int)", "long row(int)", "int lead(int,int,int)", "int longest(boolean,boolean)",
        "int floats(boolean,boolean,int)", "int layers(int,int,int,int)", "int layer(int,int,int,int,int)",
        "int seenColour(int,int)", "int coloured(int)", "int period(boolean,boolean)", "int fewest(boolean)",
        "int pegs(boolean)", "int cover(int)", "boolean seen(int,long)", "int wrong(int)", "int nearest(int,int)",
        "int mended(int)", "int mendedShaft(int)", "int shifted(boolean)", "int about(int)"};
    private static int wrong = 0;

    public static void main(String[] args) throws IOException {
        face();
        insides();
        words();
        extremes();
        noObjects();
        System.out.println(wrong == 0 ? "the face is as told" : wrong + " things are not as told");
        if (wrong != 0) {
            System.exit(1);
        }
    }

    private static void due(boolean holds, String what) {
        if (!holds) {
            wrong++;
            System.out.println("not so: " + what);
        }
    }

    private static String told(Method method) {
        StringBuilder text = new StringBuilder(method.getReturnType().getSimpleName()).append(' ').append(method.getName()).append('(');
        for (Class<?> type : method.getParameterTypes()) {
            text.append(text.charAt(text.length() - 1) == '(' ? "" : ",").append(type.getSimpleName());
        }
        return text.append(')').toString();
    }

    private static void face() {
        Class<?> type = DraftHouse.class;
        due(Modifier.isPublic(type.getModifiers()) && Modifier.isFinal(type.getModifiers()), "public and final");
        Set<String> found = new TreeSet<>();
        for (Method method : type.getDeclaredMethods()) {
            if (!Modifier.isPrivate(method.getModifiers())) {
                due(Modifier.isPublic(method.getModifiers()) && !Modifier.isStatic(method.getModifiers()), "public: " + method);
                found.add(told(method));
            }
        }
        due(found.equals(new TreeSet<>(Set.of(FACE))), "the methods are those of the document");
        due(type.getDeclaredConstructors().length == 1, "one constructor");
        Constructor<?> constructor = type.getDeclaredConstructors()[0];
        due(Modifier.isPublic(constructor.getModifiers()) && constructor.getParameterCount() == 2, "of two numbers");
        for (Field field : type.getDeclaredFields()) {
            int how = field.getModifiers();
            due(Modifier.isPrivate(how) || field.getName().equals("NONE") && Modifier.isPublic(how), "private: " + field);
        }
        due(type.getSuperclass() == Object.class && type.getInterfaces().length == 0, "of no other kind");
    }

    private static void insides() {
        Set<String> names = new TreeSet<>();
        for (String text : FACE) {
            names.add(text.substring(text.indexOf(' ') + 1, text.indexOf('(')));
        }
        Class<?>[] inside = DraftHouse.class.getDeclaredClasses();
        due(inside.length < 12, "some twelve classes");
        inspect(DraftHouse.class, names);
        for (Class<?> type : inside) {
            due(Modifier.isStatic(type.getModifiers()), "static: " + type);
            inspect(type, names);
        }
    }

    private static void inspect(Class<?> type, Set<String> names) {
        int fields = 0;
        for (Field field : type.getDeclaredFields()) {
            if (Modifier.isStatic(field.getModifiers())) {
                due(Modifier.isFinal(field.getModifiers()), "final: " + field);
            } else {
                fields++;
            }
        }
        due(fields <= 22, "some twenty fields in " + type);
        for (Method method : type.getDeclaredMethods()) {
            due(method.getParameterCount() <= 7, "seven parameters: " + method);
            boolean hidden = Modifier.isPrivate(method.getModifiers());
            due(!hidden || !names.contains(method.getName()), "a name of its own: " + method);
        }
    }

    /** The code, without comments and the insides of texts. */
    private static String code() throws IOException {
        String code = Files.readString(Path.of("src/main/java/DraftHouse.java"));
        return code.replaceAll("(?s)/\\*.*?\\*/", " ").replaceAll("//[^\n]*", " ").replaceAll("\"[^\"\n]*\"", "\"\"");
    }

    private static void words() throws IOException {
        String code = code();
        String[] banned = {"throw", "throws", "try", "catch", "synchronized", "assert", "finally", "package", "->", "::",
            "System", "Exact", "hashCode", "toString", "equals", "Random", "Thread", "protected", "native", "volatile"};
        for (String word : banned) {
            boolean sign = !Character.isLetter(word.charAt(0));
            boolean found = sign ? code.contains(word) : code.matches("(?s).*\\b\\w*" + word + "\\b.*");
            due(!found, "without " + word);
        }
        due(code.split("\\bimport\\b").length == 2 && code.contains("import java.util.Arrays;"), "one import");
        int longest = 0;
        int from = -1;
        String[] lines = Files.readString(Path.of("src/main/java/DraftHouse.java")).split("\n");
        for (int i = 0; i < lines.length; i++) {
            if (lines[i].matches("    (    )?(public|private)[^=;]*\\) \\{")) {
                from = i;
            } else if (from >= 0 && lines[i].matches("    (    )?\\}")) {
                longest = Math.max(longest, i - from + 1);
                from = -1;
            }
            due(lines[i].length() <= 120, "120 signs in line " + (i + 1));
        }
        due(longest > 20 && longest <= 60, "methods of sixty lines, the longest has " + longest);
    }

    /** No call throws, whatever its numbers are, in a new, a full and an odd object. */
    private static void extremes() {
        int[] far = {Integer.MIN_VALUE, Integer.MIN_VALUE + 1, -49, -17, -2, -1, 0, 1, 15, 16, 47, 48, 49, 96, 300, 65535, 65536,
            Integer.MAX_VALUE - 48, Integer.MAX_VALUE};
        for (int wide : far) {
            for (int a : far) {
                DraftHouse x = new DraftHouse(wide, a);
                for (int b : far) {
                    callAll(x, a, b);
                }
            }
        }
    }

    private static void callAll(DraftHouse x, int a, int b) {
        x.thread(a, b);
        x.tie(a, b);
        x.tread(a, b);
        x.colour(true, a, b);
        x.colour(false, b, a);
        x.feed(a, b, a, b, a);
        x.end(b);
        x.text();
        x.fault(a);
        x.look(b);
        x.shaft(a);
        x.lift(a);
        x.row(a);
        x.lead(a, b, b);
        x.lead(0, 0, a);
        x.longest(true, true);
        x.floats(false, true, a);
        x.layers(a, b, a, b);
        x.layer(a, b, a, b, a);
        x.layer(0, 0, 0, 0, a);
        x.seenColour(a, b);
        x.coloured(a);
        x.period(true, true);
        x.fewest(true);
        x.pegs(true);
        x.cover(a);
        x.seen(a, (long) a << 32 | b);
        x.wrong(a);
        x.nearest(a, b);
        x.nearest(a, 0);
        x.mended(a);
        x.mendedShaft(a);
        x.shifted(true);
        x.about(a);
    }

    /** All calls of a run share one room, so that rows are made in constructors alone. */
    private static void noObjects() {
        com.sun.management.ThreadMXBean threads = (com.sun.management.ThreadMXBean) ManagementFactory.getThreadMXBean();
        DraftHouse x = new DraftHouse(48, 48);
        callAll(new DraftHouse(48, 48), 1, 2);
        threads.getCurrentThreadAllocatedBytes();
        long before = threads.getCurrentThreadAllocatedBytes();
        for (int i = 0; i < 20; i++) {
            callAll(x, i, i + 3);
        }
        long made = threads.getCurrentThreadAllocatedBytes() - before;
        due(made < 4000, "calls make no objects, but " + made + " bytes came");
    }
}
