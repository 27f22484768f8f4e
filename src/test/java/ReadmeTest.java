import java.io.IOException;
import java.lang.reflect.Method;
import java.lang.reflect.Modifier;
import java.nio.file.Files;
import java.nio.file.Path;
import java.util.HashMap;
import java.util.Map;
import java.util.TreeSet;
import java.util.regex.Matcher;
import java.util.regex.Pattern;

/** The calls that README.md shows, on one desk: each answers what stands behind it, and no call of the face is missing. */
public final class ReadmeTest {
    private static final Pattern BLOCK = Pattern.compile("```java\n(.*?)```", Pattern.DOTALL);
    private static final Pattern CALL = Pattern.compile("(?:int (\\w+) = )?desk\\.(\\w+)\\(([^)]*)\\);\\s*// ([^:]*)(:.*)?");
    private static final String NEW = "Signround desk = new Signround();";

    private final Map<String, String> numberOf = new HashMap<>();
    private final TreeSet<String> shown = new TreeSet<>();
    private final StringBuilder run = new StringBuilder();

    public static void main(String[] args) throws IOException {
        ReadmeTest test = new ReadmeTest();
        test.read(Files.readString(Path.of("README.md")));
        Sentence.holds("README", test.run.toString());
        Check.due("calls that README shows", test.shown, face());
        Check.end();
    }

    private void read(String text) {
        Matcher block = BLOCK.matcher(text);
        while (block.find()) {
            block.group(1).lines().filter(line -> !line.isBlank() && !line.equals(NEW)).forEach(this::line);
        }
    }

    private void line(String line) {
        Matcher call = CALL.matcher(line);
        Check.due("README has a call and its answer in: " + line, call.matches(), true);
        if (!call.matches()) {
            return;
        }
        String arguments = call.group(3);
        for (Map.Entry<String, String> named : numberOf.entrySet()) {
            arguments = arguments.replaceAll("\\b" + named.getKey() + "\\b", named.getValue());
        }
        String name = call.group(2);
        String answer = name.equals("setTimes") ? "" : call.group(4).trim().replace("throws ", Desk.THROWS);
        if (call.group(1) != null) {
            numberOf.put(call.group(1), answer);
        }
        shown.add(name);
        run.append(name + "(" + arguments + ") " + answer + "\n");
    }

    private static TreeSet<String> face() {
        TreeSet<String> names = new TreeSet<>();
        for (Method m : Signround.class.getDeclaredMethods()) {
            if (Modifier.isPublic(m.getModifiers())) {
                names.add(m.getName());
            }
        }
        return names;
    }
}
