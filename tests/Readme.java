import java.lang.reflect.Field;
import java.lang.reflect.InvocationTargetException;
import java.lang.reflect.Method;
import java.lang.reflect.Modifier;
import java.nio.file.Files;
import java.nio.file.Path;
import java.util.HashMap;
import java.util.HashSet;
import java.util.Map;
import java.util.Set;
import java.util.regex.Matcher;
import java.util.regex.Pattern;

/** What README.md says of the class and of the files holds. */
public final class Readme {
    private static final Pattern CALL = Pattern.compile("(?:int (\\w+) = )?x\\.(\\w+)\\((.*)\\); +// (-?\\d+)(?::.*)?");
    private static final Pattern ROW = Pattern.compile("(?m)^\\| `([A-Z]+)`, (-\\d) \\|(.*)\\|.*\\|$");
    private static final Pattern NAMED_FILE = Pattern.compile("(?:\\.\\./shared|src|tests|\\.ci)/[\\w./]*");
    private static final Pattern QUOTED = Pattern.compile("`(\\w+)`");

    private static int wrong = 0;

    public static void main(String[] args) throws ReflectiveOperationException, java.io.IOException {
        String text = Files.readString(Path.of("README.md"));
        runExample(between(text, "```java\n", "```"));
        lookAtAnswers(text);
        lookAtFiles(text);
        System.out.println(wrong == 0 ? "README.md holds" : wrong + " faults in README.md");
        if (wrong != 0) {
            System.exit(1);
        }
    }

    private static void fault(String what) {
        wrong++;
        System.out.println("README.md: " + what);
    }

    private static String between(String text, String start, String end) {
        int from = text.indexOf(start);
        int to = from < 0 ? -1 : text.indexOf(end, from + start.length());
        if (to < 0) {
            fault("nothing between " + start + " and " + end);
            return "";
        }
        return text.substring(from + start.length(), to);
    }

    /** Each line but the first is a call with what it answers, and each call of the face is among them. */
    private static void runExample(String example) throws ReflectiveOperationException {
        Map<String, Integer> named = new HashMap<>();
        Set<String> called = new HashSet<>();
        RowRules x = null;
        for (String line : example.split("\n")) {
            Matcher call = CALL.matcher(line);
            if (line.equals("RowRules x = new RowRules();")) {
                x = new RowRules();
            } else if (call.matches() && x != null) {
                long got = answer(x, call.group(2), call.group(3), named);
                if (got != Long.parseLong(call.group(4))) {
                    fault(line + " answered " + got);
                }
                if (call.group(1) != null) {
                    named.put(call.group(1), (int) got);
                }
                called.add(call.group(2));
            } else if (!line.isEmpty()) {
                fault("no call: " + line);
            }
        }
        for (Method m : RowRules.class.getDeclaredMethods()) {
            if (Modifier.isPublic(m.getModifiers()) && !called.contains(m.getName())) {
                fault("the example does not call " + m.getName());
            }
        }
    }

    private static long answer(RowRules x, String name, String told, Map<String, Integer> named) throws ReflectiveOperationException {
        String[] words = told.isEmpty() ? new String[0] : told.split(", ");
        Object[] numbers = new Object[words.length];
        for (int i = 0; i < words.length; i++) {
            Integer known = named.get(words[i]);
            numbers[i] = known != null ? known : Integer.valueOf(words[i]);
        }
        return ((Number) methodOf(name).invoke(x, numbers)).longValue();
    }

    private static Method methodOf(String name) throws NoSuchMethodException {
        for (Method m : RowRules.class.getDeclaredMethods()) {
            if (m.getName().equals(name) && Modifier.isPublic(m.getModifiers())) {
                return m;
            }
        }
        throw new NoSuchMethodException(name);
    }

    /** The table names each constant with its number, and calls that are there. */
    private static void lookAtAnswers(String text) throws ReflectiveOperationException {
        Set<String> told = new HashSet<>();
        Matcher row = ROW.matcher(text);
        while (row.find()) {
            told.add(row.group(1));
            if (RowRules.class.getField(row.group(1)).getInt(null) != Integer.parseInt(row.group(2))) {
                fault(row.group(1) + " is not " + row.group(2));
            }
            Matcher call = QUOTED.matcher(row.group(3));
            while (call.find()) {
                methodOf(call.group(1));
            }
        }
        for (Field f : RowRules.class.getFields()) {
            if (!told.contains(f.getName())) {
                fault("the table does not tell " + f.getName());
            }
        }
    }

    private static void lookAtFiles(String text) throws java.io.IOException {
        Matcher file = NAMED_FILE.matcher(text);
        while (file.find()) {
            if (!Files.exists(Path.of(file.group()))) {
                fault("there is no " + file.group());
            }
        }
        try (var files = Files.walk(Path.of("tests"))) {
            files.filter(Files::isRegularFile).filter(f -> !text.contains(f.toString())).forEach(f -> fault("does not name " + f));
        }
    }
}
