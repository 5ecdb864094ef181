import java.lang.reflect.InvocationTargetException;
import java.lang.reflect.Method;
import java.lang.reflect.Modifier;
import java.nio.file.Files;
import java.nio.file.Path;
import java.util.ArrayList;
import java.util.HashMap;
import java.util.List;
import java.util.Map;
import java.util.Set;
import java.util.TreeSet;
import java.util.regex.Matcher;
import java.util.regex.Pattern;

/** What README.md says: its example is run line by line, and its tables are compared with the class. */
public final class ReadmeTests {
    private static final Pattern CALL = Pattern.compile("(?:(?:int|long) (\\w+) = )?row\\.(\\w+)\\((.*)\\); +// (-?\\d+)(?:: (\\w+))?");
    private static final Pattern TOLD_CALL = Pattern.compile("\\| `(\\w+)\\((.*?)\\)` \\|.*\\|(.*)\\|");
    private static final Pattern TOLD_SETTING = Pattern.compile("\\| `(\\w+)` \\| (\\d+) \\| (\\d+) to (\\d+) \\| (\\d+) \\|.*");
    private static final Pattern TOLD_CODE = Pattern.compile("\\| `(\\w+)` (-\\d+) \\|.*");

    private static int wrong = 0;

    private static void due(String what, Object got, Object want) {
        if (!got.equals(want)) {
            wrong++;
            System.out.println(what + " is " + got + ", due is " + want);
        }
    }

    private static long constant(String name) throws Exception {
        return CartPitches.class.getField(name).getInt(null);
    }

    private static long valueOf(String told, Map<String, Long> names) throws Exception {
        if (names.containsKey(told)) {
            return names.get(told);
        }
        if (told.startsWith("CartPitches.")) {
            return constant(told.substring("CartPitches.".length()));
        }
        return Long.decode(told.replace("L", ""));
    }

    private static Method method(String name) {
        for (Method m : CartPitches.class.getDeclaredMethods()) {
            if (m.getName().equals(name) && Modifier.isPublic(m.getModifiers())) {
                return m;
            }
        }
        throw new IllegalArgumentException("there is no method " + name);
    }

    private static long answer(CartPitches row, String name, String told, Map<String, Long> names) throws Exception {
        Method m = method(name);
        List<Object> values = new ArrayList<>();
        for (String each : told.isEmpty() ? new String[0] : told.split(", ")) {
            long value = valueOf(each, names);
            if (m.getParameterTypes()[values.size()] == long.class) {
                values.add(value);
            } else {
                values.add((int) value);
            }
        }
        try {
            return ((Number) m.invoke(row, values.toArray())).longValue();
        } catch (InvocationTargetException e) {
            due("what " + name + "(" + told + ") throws", e.getCause().toString(), "");
            return 0;
        }
    }

    private static void example(String page) throws Exception {
        int begin = page.indexOf("```java\n") + 8;
        String[] lines = page.substring(begin, page.indexOf("```", begin)).split("\n");
        due("the example's first line", lines[0], "CartPitches row = new CartPitches();");
        CartPitches row = new CartPitches();
        Map<String, Long> names = new HashMap<>();
        int calls = 0;
        for (int i = 1; i < lines.length; i++) {
            Matcher call = CALL.matcher(lines[i]);
            if (lines[i].isEmpty() || lines[i].startsWith("//")) {
                continue;
            }
            due("a line of the example that can be read: " + lines[i], call.matches(), true);
            long got = answer(row, call.group(2), call.group(3), names);
            due(lines[i], got, Long.valueOf(call.group(4)));
            if (call.group(5) != null) {
                due("the code in " + lines[i], got, constant(call.group(5)));
            }
            names.put(call.group(1), got);
            calls++;
        }
        due("the example has calls", calls > 20, true);
    }

    /** The codes that a method answers as errors, in the order in which it checks them, as the document tells them. */
    private static final String[] ERRORS = {
        "set BAD_VALUE", "seed BAD_VALUE", "pitch BAD_VALUE TOO_MANY", "rent NO_SUCH BAD_VALUE", "cart BAD_VALUE TOO_MANY",
        "wish NO_SUCH BAD_VALUE", "fine NO_SUCH BAD_VALUE", "check NO_SUCH NOT_POSSIBLE", "swap NO_SUCH TOO_MANY",
        "pay NO_SUCH BAD_VALUE", "days BAD_VALUE", "ofCart NO_SUCH BAD_VALUE", "money NO_SUCH BAD_VALUE",
        "ofPitch NO_SUCH BAD_VALUE", "count BAD_VALUE", "pointsOn NO_SUCH BAD_VALUE", "wouldHave NO_SUCH", "ifWished NO_SUCH",
        "firstDay NO_SUCH", "daysOf NO_SUCH BAD_VALUE", "luckySeed NO_SUCH", "whyNot NO_SUCH", "put BAD_VALUE TOO_MANY",
        "wipe", "fault", "carryOut BAD_TEXT", "undo NOT_POSSIBLE", "save BAD_VALUE", "restore BAD_VALUE NOT_POSSIBLE"};

    private static void calls(String[] lines) {
        Set<String> told = new TreeSet<>();
        Set<String> errors = new TreeSet<>();
        for (String line : lines) {
            Matcher call = TOLD_CALL.matcher(line);
            if (call.matches()) {
                int parameters = call.group(2).isEmpty() ? 0 : call.group(2).split(", ").length;
                told.add(call.group(1) + " " + parameters);
                StringBuilder row = new StringBuilder(call.group(1));
                Matcher code = Pattern.compile("`([A-Z_]+)`").matcher(call.group(3));
                while (code.find()) {
                    row.append(' ').append(code.group(1));
                }
                errors.add(row.toString());
            }
        }
        Set<String> open = new TreeSet<>();
        for (Method m : CartPitches.class.getDeclaredMethods()) {
            if (Modifier.isPublic(m.getModifiers())) {
                open.add(m.getName() + " " + m.getParameterCount());
            }
        }
        due("the calls told", told, open);
        due("their errors", errors, new TreeSet<>(List.of(ERRORS)));
    }

    private static void settings(String[] lines) throws Exception {
        int told = 0;
        for (String line : lines) {
            Matcher setting = TOLD_SETTING.matcher(line);
            if (setting.matches()) {
                int number = Integer.parseInt(setting.group(2));
                int least = Integer.parseInt(setting.group(3));
                int most = Integer.parseInt(setting.group(4));
                CartPitches row = new CartPitches();
                due(line + " number", constant(setting.group(1)), (long) number);
                due(line + " first value", row.count(8 + number), Integer.valueOf(setting.group(5)));
                due(line + " below", row.set(number, least - 1), CartPitches.BAD_VALUE);
                due(line + " least", row.set(number, least) >= 0, true);
                due(line + " above", row.set(number, most + 1), CartPitches.BAD_VALUE);
                due(line + " most", row.set(number, most), least);
                told++;
            }
        }
        due("settings told", told, 10);
    }

    private static void codes(String[] lines) throws Exception {
        int told = 0;
        for (String line : lines) {
            Matcher code = TOLD_CODE.matcher(line);
            if (code.matches()) {
                due(line, constant(code.group(1)), Long.valueOf(code.group(2)));
                told++;
            }
        }
        due("codes told", told, 6);
    }

    /** Each file beside README.md that holds tests is named there, by its name or by its group's. */
    private static void tests(String page) throws Exception {
        try (var files = Files.list(Path.of("src/test/java"))) {
            for (Path file : (Iterable<Path>) files.sorted()::iterator) {
                String name = file.getFileName().toString();
                boolean inGroup = name.endsWith("BoundaryTests.java") && page.contains("`" + name.replace("BoundaryTests.java", "`"));
                due(name + " is told", inGroup || page.contains(name), true);
            }
        }
    }

    public static void main(String[] args) throws Exception {
        String page = Files.readString(Path.of("README.md"));
        String[] lines = page.split("\n");
        example(page);
        calls(lines);
        settings(lines);
        codes(lines);
        tests(page);
        System.out.println(wrong == 0 ? "README.md holds" : wrong + " faults");
        if (wrong != 0) {
            System.exit(1);
        }
    }
}
