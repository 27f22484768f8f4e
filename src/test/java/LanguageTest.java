import com.sun.management.ThreadMXBean;
import java.io.IOException;
import java.lang.management.ManagementFactory;
import java.lang.reflect.Field;
import java.lang.reflect.InvocationTargetException;
import java.lang.reflect.Method;
import java.lang.reflect.Modifier;
import java.nio.file.Files;
import java.nio.file.Path;
import java.util.ArrayList;
import java.util.Arrays;
import java.util.List;
import java.util.Set;
import java.util.TreeSet;
import java.util.regex.Matcher;
import java.util.regex.Pattern;

/** What of ../shared/LANGUAGE.md can be seen in the program's text, in its classes, and in what a run makes. */
public final class LanguageTest {
    private static final Set<String> EXCEPTIONS =
            Set.of("IndexOutOfBoundsException", "IllegalArgumentException", "IllegalStateException");
    /** What the program uses: another call is to be looked up in rule 4 before it comes in. */
    private static final Set<String> LIBRARY = Set.of("Integer.bitCount", "Math.max", "Math.min");
    /** Each of them is ruled out, or is not needed here: what is allowed of them is to be looked up before it comes in. */
    private static final Pattern NOT_USED = Pattern.compile("\\b(try|catch|finally|assert|synchronized|native|transient|volatile"
            + "|import|package|instanceof|var|record|double|hashCode|equals|toString|yield)\\b|->|::|@");
    private static final Pattern HEADER = Pattern.compile("( {4}| {8})(?:(?:public|private|static|final) )*(?:[\\w\\[\\]]+ )?\\w+\\(.*[^;]");
    private static final Pattern LIBRARY_CALL = Pattern.compile("\\b([A-Z][a-z]\\w*)\\.(\\w+)");
    private static final Pattern CLASS_NAME = Pattern.compile("\\b[A-Z][a-z]\\w*");

    // In bytes: an object or array takes 16 or more, an element or a field one or more.
    private static final long ROOM = 7_300_000;

    private static String text;

    public static void main(String[] args) throws IOException, ReflectiveOperationException {
        text = Files.readString(Path.of("src/main/java/Signround.java"))
                .replaceAll("(?s)/\\*.*?\\*/", "").replaceAll("//[^\n]*", "").replaceAll("\"[^\"\n]*\"", "\"\"");
        words();
        names();
        exceptions();
        methods();
        classes();
        for (Method m : Signround.class.getDeclaredMethods()) {
            if (Modifier.isPublic(m.getModifiers())) {
                Check.due("rule 12: what 512 calls with " + m.getName() + " make has room", bytesOf(m) < ROOM, true);
            }
        }
        Check.end();
    }

    private static List<String> found(Pattern pattern) {
        return pattern.matcher(text).results().map(found -> found.group()).toList();
    }

    private static void words() {
        Check.due("rules 2, 3, 4, 6 and 10: words that the program has no need of", found(NOT_USED), List.of());
        Check.due("rule 10: texts joined by +", found(Pattern.compile("\"\\s*\\+|\\+\\s*\"")), List.of());
        Check.due("rule 5: initialiser blocks", found(Pattern.compile("(?m)^\\s*(static\\s*)?\\{")), List.of());
    }

    private static void names() {
        TreeSet<String> strange = new TreeSet<>(found(CLASS_NAME));
        for (Class<?> c : all()) {
            strange.remove(c.getSimpleName());
        }
        strange.removeAll(EXCEPTIONS);
        strange.removeAll(Set.of("Integer", "Math"));
        Check.due("rules 3, 4 and 13: classes that are not the program's own", strange, Set.of());
        TreeSet<String> calls = new TreeSet<>(found(LIBRARY_CALL));
        calls.removeAll(LIBRARY);
        Check.due("rule 4: what is used of the library", calls, Set.of());
    }

    private static void exceptions() {
        Matcher thrown = Pattern.compile("\\bthrow\\b([^;]*);").matcher(text);
        while (thrown.find()) {
            Matcher known = Pattern.compile(" new (\\w+)\\(\"\"\\)").matcher(thrown.group(1));
            Check.due("rule 6: throw" + thrown.group(1), known.matches() && EXCEPTIONS.contains(known.group(1)), true);
        }
    }

    /** From each header to the line that closes it. */
    private static void methods() {
        List<String> lines = text.lines().toList();
        int seen = 0;
        for (int from = 0; from < lines.size(); from++) {
            Matcher header = HEADER.matcher(lines.get(from));
            if (!header.matches()) {
                continue;
            }
            seen++;
            int to = lines.subList(from, lines.size()).indexOf(header.group(1) + "}");
            Check.due("rule 11: lines of " + lines.get(from).trim(), to >= 0 && to < 60, true);
            String name = lines.get(from).replaceAll("\\(.*", "").replaceAll(".* ", "");
            boolean throwing = String.join("\n", lines.subList(from, from + to + 1)).contains("throw ");
            Check.due("rule 6: a throw in the constructor of " + name, Character.isUpperCase(name.charAt(0)) && throwing, false);
        }
        int known = all().stream().mapToInt(c -> (int) Arrays.stream(c.getDeclaredMethods()).filter(m -> !m.isSynthetic()).count()).sum();
        Check.due("methods and written constructors that were looked at", seen >= known, true);
    }

    private static List<Class<?>> all() {
        List<Class<?>> all = new ArrayList<>(List.of(Signround.class.getDeclaredClasses()));
        all.add(Signround.class);
        return all;
    }

    private static void classes() {
        Check.due("rule 11: some twelve classes", all().size() <= 12, true);
        for (Class<?> c : all()) {
            long fields = Arrays.stream(c.getDeclaredFields()).filter(f -> !Modifier.isStatic(f.getModifiers())).count();
            Check.due("rule 11: some twenty fields of " + c, fields <= 20, true);
            for (Field f : c.getDeclaredFields()) {
                boolean open = Modifier.isStatic(f.getModifiers()) && (f.getType() != int.class || !Modifier.isFinal(f.getModifiers()));
                Check.due("rule 5: static and not a constant number: " + f, open, false);
            }
            for (Method m : c.getDeclaredMethods()) {
                Check.due("rule 11: at most seven parameters of " + m, m.getParameterCount() <= 7, true);
            }
        }
    }

    /** What a desk that holds as much as it can makes, and then one call as often as it may be made. */
    private static long bytesOf(Method method) throws ReflectiveOperationException {
        Object[] arguments = new Object[method.getParameterCount()];
        Arrays.fill(arguments, 1);
        ThreadMXBean threads = (ThreadMXBean) ManagementFactory.getThreadMXBean();
        long before = threads.getCurrentThreadAllocatedBytes();
        Signround desk = new Signround();
        for (int e = 0; e < 6; e++) {
            desk.draft();
            desk.addRound(e, 255);
            desk.setTimes(e, 1, 0);
            desk.send(e);
        }
        desk.pass(6);
        for (int calls = 25; calls < Desk.MOST_CALLS; calls++) {
            try {
                method.invoke(desk, arguments);
            } catch (InvocationTargetException e) {
                // Some calls are refused, again and again: what that makes is counted as well.
                continue;
            }
        }
        return threads.getCurrentThreadAllocatedBytes() - before;
    }
}
