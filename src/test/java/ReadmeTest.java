import java.io.IOException;
import java.lang.reflect.Method;
import java.lang.reflect.Modifier;
import java.nio.file.Files;
import java.nio.file.Path;
import java.util.Set;
import java.util.TreeSet;
import java.util.regex.Matcher;
import java.util.regex.Pattern;

/** What README.md says of the use: each call's answer stands behind it, and no call of the face is left out. */
public final class ReadmeTest {
    private static final Pattern NEW = Pattern.compile("FreeParts x = new FreeParts\\((\\d+)\\);.*");
    private static final Pattern CALL = Pattern.compile("x\\.(\\w+\\(.*?\\)); +// (-?\\d+): .*");

    private static int seen = 0;
    private static int wrong = 0;

    private ReadmeTest() {
    }

    public static void main(String[] args) throws IOException {
        Set<String> leftOut = new TreeSet<>();
        for (Method m : FreeParts.class.getDeclaredMethods()) {
            if (Modifier.isPublic(m.getModifiers())) {
                leftOut.add(m.getName());
            }
        }
        runExample(leftOut);
        if (!leftOut.isEmpty()) {
            fault("README.md does not show " + leftOut);
        }
        System.out.println(seen + " answers of README.md seen, " + wrong + " faults");
        if (wrong != 0) {
            System.exit(1);
        }
    }

    private static void runExample(Set<String> leftOut) throws IOException {
        boolean inJava = false;
        Run run = null;
        for (String line : Files.readAllLines(Path.of("README.md"))) {
            if (line.startsWith("```")) {
                inJava = line.equals("```java");
                continue;
            }
            Matcher made = NEW.matcher(line);
            Matcher call = CALL.matcher(line);
            if (inJava && made.matches()) {
                run = new Run(Integer.parseInt(made.group(1)));
            } else if (inJava && run != null && call.matches()) {
                String text = call.group(1).replace("FreeParts.", "");
                leftOut.remove(Call.of(text).name);
                due(text, run.call(text), Long.parseLong(call.group(2)));
            } else if (inJava && line.startsWith("x.")) {
                fault("no answer can be read in: " + line);
            }
        }
    }

    private static void due(String text, long got, long want) {
        seen++;
        if (got != want) {
            fault(text + " answered " + got + ", README.md says " + want);
        }
    }

    private static void fault(String text) {
        wrong++;
        System.out.println(text);
    }
}
