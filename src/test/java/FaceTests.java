import java.lang.management.ManagementFactory;
import java.lang.reflect.Constructor;
import java.lang.reflect.Field;
import java.lang.reflect.Member;
import java.lang.reflect.Method;
import java.lang.reflect.Modifier;
import java.nio.file.Files;
import java.nio.file.Path;
import java.util.ArrayList;
import java.util.Arrays;
import java.util.List;
import java.util.Set;
import java.util.TreeSet;
import java.util.regex.Matcher;
import java.util.regex.Pattern;

/** The public face of the document, and the rules of LANGUAGE.md that can be read from the class or from its source. */
public final class FaceTests {
    private static final String[] FACE = {
        "int set(int,int)", "int seed(int)", "int pitch(int)", "int rent(int,int)", "int cart(int,int)", "int wish(int,int,int,int)",
        "int fine(int,int)", "int check(int)", "int swap(int,int)", "int pay(int,int)", "int days(int)", "int ofCart(int,int)",
        "long money(int,int)", "int ofPitch(int,int)", "int count(int)", "int pointsOn(int,int)", "int wouldHave(int)",
        "int ifWished(int,int)", "int firstDay(int)", "int daysOf(int,int)", "int luckySeed(int,int)", "int whyNot(int,int)",
        "int put(long)", "int wipe()", "int fault()", "int carryOut()", "int undo()", "int save(int)", "int restore(int)"};
    private static final String[] CONSTANTS = {"NO_SUCH -1", "BAD_VALUE -2", "BAD_TEXT -3", "TOO_MANY -4", "NOT_POSSIBLE -5", "NONE -6",
        "TICKETS 0", "VALID 1", "CHECKS 2", "LIMIT 3", "BAN 4", "LAPSE 5", "FINE 6", "ABSENT 7", "OPEN 8", "SWAP 9"};
    private static final int SEEN = Modifier.PUBLIC | Modifier.PROTECTED | Modifier.PRIVATE;

    private static int wrong = 0;

    private static void due(String what, Object got, Object want) {
        if (!got.equals(want)) {
            wrong++;
            System.out.println(what + " is " + got + ", due is " + want);
        }
    }

    private static String told(Method m) {
        List<String> names = new ArrayList<>();
        for (Class<?> type : m.getParameterTypes()) {
            names.add(type.getName());
        }
        return m.getReturnType().getName() + " " + m.getName() + "(" + String.join(",", names) + ")";
    }

    private static boolean isPrivate(Member m) {
        return (m.getModifiers() & SEEN) == Modifier.PRIVATE;
    }

    private static void face() throws Exception {
        Class<?> x = CartPitches.class;
        due("the class's modifiers", x.getModifiers(), Modifier.PUBLIC | Modifier.FINAL);
        Set<String> open = new TreeSet<>();
        for (Method m : x.getDeclaredMethods()) {
            if (!isPrivate(m) && !m.isSynthetic()) {
                due(m + "'s modifiers", m.getModifiers(), Modifier.PUBLIC);
                open.add(told(m));
            }
        }
        due("the open methods", open, new TreeSet<>(Arrays.asList(FACE)));
        Set<String> constants = new TreeSet<>();
        for (Field f : x.getDeclaredFields()) {
            if (!isPrivate(f) && !f.isSynthetic()) {
                due(f + "'s modifiers", f.getModifiers(), Modifier.PUBLIC | Modifier.STATIC | Modifier.FINAL);
                constants.add(f.getName() + " " + f.get(null));
            }
        }
        due("the constants", constants, new TreeSet<>(Arrays.asList(CONSTANTS)));
        int constructors = 0;
        for (Constructor<?> c : x.getDeclaredConstructors()) {
            if (!c.isSynthetic()) {
                constructors++;
                due(c + " is public", Modifier.isPublic(c.getModifiers()), true);
            }
        }
        due("constructors", constructors, 1);
    }

    private static void classesInside() {
        Set<String> open = new TreeSet<>();
        for (Method m : CartPitches.class.getMethods()) {
            open.add(m.getName());
        }
        List<Class<?>> all = new ArrayList<>(Arrays.asList(CartPitches.class.getDeclaredClasses()));
        due("at most 12 classes", all.size() < 12, true);
        for (Class<?> c : all) {
            due(c + " is private and static", c.getModifiers() & (SEEN | Modifier.STATIC), Modifier.PRIVATE | Modifier.STATIC);
        }
        all.add(CartPitches.class);
        for (Class<?> c : all) {
            int fields = 0;
            for (Field f : c.getDeclaredFields()) {
                boolean shared = Modifier.isStatic(f.getModifiers());
                fields += shared ? 0 : 1;
                due(f + " is final if static", shared && !Modifier.isFinal(f.getModifiers()), false);
            }
            due(c + " has at most 20 fields", fields <= 20, true);
            for (Method m : c.getDeclaredMethods()) {
                due(m + " has at most 7 parameters", m.getParameterCount() <= 7, true);
                boolean borrowed = open.contains(m.getName()) && !Modifier.isPublic(m.getModifiers());
                due(m + " bears a public name", borrowed, false);
            }
        }
    }

    private static void source() throws Exception {
        String text = Files.readString(Path.of("src/main/java/CartPitches.java"));
        due("signs above 126", text.chars().filter(c -> c > 126).count(), 0L);
        String code = text.replaceAll("(?s)/\\*.*?\\*/", "").replaceAll("//[^\n]*", "");
        String[] barred = {"\\bthrows?\\b", "\\btry\\b", "\\bcatch\\b", "\\bsynchronized\\b", "\\bassert\\b", "\\bimport\\b", "\\bpackage\\b",
            "->", "::", "\\bstatic\\s*\\{", "Exact\\b", "\"", "\\b(equals|hashCode|toString)\\b", "\\bObject\\b", "\\bprotected\\b",
            "\\b(HashMap|TreeMap|Iterator|Random|Thread|Scanner)\\b", "\\bSystem\\.(?!arraycopy\\b)", "\\bMath\\.(?!max\\b|min\\b)"};
        for (String word : barred) {
            Matcher found = Pattern.compile(word).matcher(code);
            due("a barred word: " + word, found.find() ? found.group() : "", "");
        }
        int begin = 0;
        String[] lines = text.split("\n");
        for (int i = 0; i < lines.length; i++) {
            if (lines[i].matches(" {4}( {4})?[a-z].*\\) \\{")) {
                begin = i;
            }
            due("lines of the method at " + (begin + 1), lines[i].matches(" {4}( {4})?}") && i - begin > 60 && begin > 0
                && lines[begin].indexOf(lines[begin].trim()) == lines[i].indexOf('}'), false);
        }
    }

    /** Rule 9: each loop is a 'for' whose own line tells that its counter goes up or down by a constant against a bound. */
    private static void loops() throws Exception {
        String[] lines = Files.readString(Path.of("src/main/java/CartPitches.java")).split("\n");
        Pattern counted = Pattern.compile("for \\(int (\\w+) = [^;]+; [^;]*\\b\\1 [<>]=? [^;]+; \\1(\\+\\+|--| \\+= \\d+)\\) \\{");
        int loops = 0;
        for (int i = 0; i < lines.length; i++) {
            String line = lines[i].trim();
            if (line.matches("(for|while|do)\\b.*|.*\\bwhile \\(.*") && !line.startsWith("//") && !line.startsWith("/*")) {
                loops++;
                due("line " + (i + 1) + " is a counted loop", counted.matcher(line).matches(), true);
            }
        }
        due("there are loops", loops > 20, true);
    }

    /** All is made in the constructor: no call makes an object. */
    private static void room() {
        com.sun.management.ThreadMXBean bean = (com.sun.management.ThreadMXBean) ManagementFactory.getThreadMXBean();
        CartPitches x = new CartPitches();
        for (int i = 0; i < 10; i++) {
            x.pitch(i);
        }
        for (int i = 0; i < 16; i++) {
            x.cart(i % 6, 1);
            x.wish(i, i % 10, (i + 3) % 10, (i + 5) % 10);
        }
        busyDay(x);
        long before = bean.getCurrentThreadAllocatedBytes();
        for (int i = 0; i < 50; i++) {
            busyDay(x);
        }
        long made = bean.getCurrentThreadAllocatedBytes() - before;
        due("bytes made by 50 busy days (at most 20000): " + made, made < 20000, true);
    }

    private static void busyDay(CartPitches x) {
        x.luckySeed(3, CartPitches.NONE);
        x.luckySeed(4, 9);
        x.firstDay(2);
        x.daysOf(2, 60);
        x.ifWished(1, 1);
        x.put(0x63413b63423b6431L);
        x.fault();
        x.carryOut();
        x.swap(0, 1);
        x.fine(1, 1);
        x.days(1);
        x.save(0);
        x.restore(0);
        x.undo();
    }

    public static void main(String[] args) throws Exception {
        face();
        classesInside();
        source();
        loops();
        room();
        System.out.println(wrong == 0 ? "the face and the rules hold" : wrong + " faults");
        if (wrong != 0) {
            System.exit(1);
        }
    }
}
