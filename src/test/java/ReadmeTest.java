import java.lang.reflect.Method;
import java.nio.file.Files;
import java.nio.file.Path;
import java.util.Set;
import java.util.TreeSet;
import java.util.regex.Matcher;
import java.util.regex.Pattern;

/** The calls that README.md shows answer what stands behind them, all on one object in their order. */
public final class ReadmeTest {
    private static final Check CHECK = new Check("ReadmeTest");
    private static final Pattern TEXT = Pattern.compile("String text = \"([^\"]*)\";");
    private static final Pattern SHOWN = Pattern.compile("x\\.(\\w+)\\(([^)]*)\\);\\s*// (-?\\d+|[A-Z]+)\\b.*");

    public static void main(String[] args) throws Exception {
        String readme = Files.readString(Path.of("README.md"));
        ScopedPhrases x = new ScopedPhrases();
        int shown = 0;
        for (String line : readme.split("\n")) {
            Matcher text = TEXT.matcher(line);
            if (text.matches()) {
                Check.feed(x, text.group(1));
            }
            Matcher call = SHOWN.matcher(line);
            if (call.matches()) {
                shown++;
                CHECK.due(line, answer(x, call.group(1), call.group(2)), due(call.group(3)));
            } else {
                CHECK.that("'" + line + "' says what it answers", !line.startsWith("x."));
            }
        }
        CHECK.that("calls are shown", shown > 0);
        everyCallIsNamed(readme);
        everyTestIsNamed(readme);
        CHECK.close();
    }

    private static int answer(ScopedPhrases x, String name, String given) throws Exception {
        String[] words = given.isEmpty() ? new String[0] : given.split(", ");
        Class<?>[] kinds = new Class<?>[words.length];
        Object[] numbers = new Object[words.length];
        for (int i = 0; i < words.length; i++) {
            kinds[i] = int.class;
            numbers[i] = words[i].startsWith("'") ? (int) words[i].charAt(1) : Integer.parseInt(words[i]);
        }
        return (Integer) ScopedPhrases.class.getMethod(name, kinds).invoke(x, numbers);
    }

    private static int due(String word) throws Exception {
        return Character.isUpperCase(word.charAt(0))
            ? ScopedPhrases.class.getField(word).getInt(null) : Integer.parseInt(word);
    }

    private static void everyCallIsNamed(String readme) {
        Set<String> names = new TreeSet<>();
        for (Method m : ScopedPhrases.class.getDeclaredMethods()) {
            if (java.lang.reflect.Modifier.isPublic(m.getModifiers())) {
                names.add(m.getName());
            }
        }
        CHECK.that("there are calls", !names.isEmpty());
        for (String name : names) {
            CHECK.that("README.md names " + name, readme.contains("`" + name + "`"));
        }
    }

    private static void everyTestIsNamed(String readme) {
        String[] files = Path.of("src/test/java").toFile().list();
        CHECK.that("there are tests", files != null && files.length > 0);
        for (String file : files == null ? new String[0] : files) {
            if (file.endsWith("Test.java")) {
                String name = file.substring(0, file.length() - ".java".length());
                CHECK.that("README.md names " + name, readme.contains("| " + name + " |"));
            }
        }
    }
}
