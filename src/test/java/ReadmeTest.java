import java.io.IOException;
import java.lang.reflect.Method;
import java.lang.reflect.Modifier;
import java.nio.file.Files;
import java.nio.file.Path;
import java.util.Set;
import java.util.StringJoiner;
import java.util.TreeSet;
import java.util.regex.Matcher;
import java.util.regex.Pattern;

/** Runs the examples of README.md in their order; each answer must be the one that stands behind the call. */
public final class ReadmeTest {
    private static final String FIRST = "Phasehall hall = new Phasehall();";
    private static final Pattern LINE = Pattern.compile("((?:hall\\.\\w+\\([^)]*\\); *)+)// ([^:]+).*");
    private static final Pattern CALL = Pattern.compile("hall\\.(\\w+)\\(([^)]*)\\);");

    private final Phasehall hall = new Phasehall();
    private final Set<String> shown = new TreeSet<>();

    public static void main(String[] args) throws IOException {
        new ReadmeTest().run();
        Check.end("ReadmeTest");
    }

    private void run() throws IOException {
        boolean inExample = false;
        for (String line : Files.readAllLines(Path.of("README.md"))) {
            if (line.startsWith("```")) {
                inExample = line.equals("```java");
            } else if (inExample && !line.equals(FIRST)) {
                runLine(line);
            }
        }
        Check.same("calls shown", shown, face());
    }

    private void runLine(String line) {
        Matcher parts = LINE.matcher(line);
        if (!parts.matches()) {
            Check.same("line of an example: " + line, "unread", "calls and what they answer");
            return;
        }
        StringJoiner got = new StringJoiner(", ");
        Matcher call = CALL.matcher(parts.group(1));
        while (call.find()) {
            shown.add(call.group(1));
            got.add(Asked.answer(hall, call.group(1), numbers(call.group(2))));
        }
        Check.same(line, got.toString(), parts.group(2).trim());
    }

    private static Object[] numbers(String text) {
        if (text.isEmpty()) {
            return new Object[0];
        }
        String[] words = text.split(", ");
        Object[] numbers = new Object[words.length];
        for (int at = 0; at < words.length; at++) {
            numbers[at] = Integer.parseInt(words[at]);
        }
        return numbers;
    }

    private static Set<String> face() {
        Set<String> names = new TreeSet<>();
        for (Method method : Phasehall.class.getDeclaredMethods()) {
            if (Modifier.isPublic(method.getModifiers())) {
                names.add(method.getName());
            }
        }
        return names;
    }
}
