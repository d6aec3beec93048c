import java.io.IOException;
import java.lang.reflect.InvocationTargetException;
import java.lang.reflect.Method;
import java.lang.reflect.Modifier;
import java.nio.file.Files;
import java.nio.file.Path;
import java.util.regex.Matcher;
import java.util.regex.Pattern;

/** The examples of README.md, read from it: each call answers what stands behind it. */
public final class ReadmeTests {
    private static final Pattern CALL = Pattern.compile("house\\.(\\w+)\\(([^)]*)\\);\\s*// (-?\\w+).*");
    private static final int EXAMPLES = 41;
    private static int wrong = 0;
    private static int made = 0;

    public static void main(String[] args) throws IOException, ReflectiveOperationException {
        String page = Files.readString(Path.of("README.md"));
        readExamples(page.split("\n"));
        due("how many examples", String.valueOf(made), String.valueOf(EXAMPLES));
        bigText(page);
        for (Method method : DraftHouse.class.getDeclaredMethods()) {
            boolean told = page.contains(method.getName() + "(") || page.contains("`" + method.getName() + "`");
            due("README.md tells of " + method.getName(), String.valueOf(told || isHidden(method)), "true");
        }
        System.out.println(wrong == 0 ? "all examples hold" : wrong + " examples don't hold");
        if (wrong != 0) {
            System.exit(1);
        }
    }

    private static boolean isHidden(Method method) {
        return Modifier.isPrivate(method.getModifiers());
    }

    private static void due(String what, String got, String want) {
        if (!got.equals(want)) {
            wrong++;
            System.out.println(what + " answered " + got + ", README.md says " + want);
        }
    }

    private static void readExamples(String[] lines) throws ReflectiveOperationException {
        DraftHouse house = null;
        for (String line : lines) {
            Matcher call = CALL.matcher(line);
            if (line.startsWith("DraftHouse house = new DraftHouse(4, 3);")) {
                house = new DraftHouse(4, 3);
            } else if (call.matches()) {
                made++;
                due(line, String.valueOf(answer(house, call.group(1), call.group(2))), call.group(3));
            } else {
                due(line, String.valueOf(line.startsWith("house.")), "false");
            }
        }
    }

    private static Object answer(DraftHouse house, String name, String told) throws ReflectiveOperationException {
        String[] words = told.isEmpty() ? new String[0] : told.split(", ");
        for (Method method : DraftHouse.class.getMethods()) {
            if (method.getName().equals(name) && method.getParameterCount() == words.length) {
                Object[] values = new Object[words.length];
                for (int i = 0; i < words.length; i++) {
                    values[i] = value(method.getParameterTypes()[i], words[i]);
                }
                return called(method, house, values);
            }
        }
        return "nothing: there is no such call";
    }

    private static Object called(Method method, DraftHouse house, Object[] values) throws IllegalAccessException {
        try {
            return method.invoke(house, values);
        } catch (InvocationTargetException thrown) {
            return thrown.getCause();
        }
    }

    private static Object value(Class<?> type, String word) {
        if (type == boolean.class) {
            return Boolean.valueOf(word);
        }
        long number = number(word);
        if (type == long.class) {
            return number;
        }
        return (int) number;
    }

    private static long number(String word) {
        if (word.equals("DraftHouse.NONE")) {
            return DraftHouse.NONE;
        }
        return word.startsWith("0b") ? Long.parseLong(word.substring(2), 2) : Long.decode(word);
    }

    /** The text that shows the clauses has no FAULT. */
    private static void bigText(String page) {
        int from = page.indexOf("block A = 0");
        DraftHouse x = new DraftHouse(48, 6);
        due("the text of clauses", String.valueOf(Tapes.tell(x, page.substring(from, page.indexOf('\n', from)))), "1");
        due("its ENTRIES", String.valueOf(x.about(4)), String.valueOf(48 + 1 + 1 + 6));
    }
}
