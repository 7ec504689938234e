import java.io.IOException;
import java.lang.reflect.Method;
import java.lang.reflect.Modifier;
import java.nio.file.Files;
import java.nio.file.Path;
import java.util.regex.Matcher;
import java.util.regex.Pattern;

/** Makes the calls that README.md shows; the number behind // is the answer that is due. */
public final class ReadmeTest {
    private static final Pattern EXAMPLE = Pattern.compile("(?s)```java\n(.*?)```");
    private static final Pattern TEXT = Pattern.compile("for \\(char c : \"([^\"]*)\"\\.toCharArray\\(\\)\\) \\{");
    private static final Pattern CALL = Pattern.compile("turns\\.(\\w+)\\(([^)]*)\\);\\s*// (-?\\d+)(?:: .*)?");

    private final Check check = new Check();
    private KnownTurns turns = new KnownTurns();
    private int calls = 0;

    public static void main(String[] args) throws Exception {
        ReadmeTest test = new ReadmeTest();
        test.readAll();
        test.everyCallIsNamed();
        test.check.finish();
    }

    private static String page() throws IOException {
        return Files.readString(Path.of("README.md"));
    }

    private void readAll() throws Exception {
        Matcher examples = EXAMPLE.matcher(page());
        while (examples.find()) {
            for (String line : examples.group(1).split("\n")) {
                follow(line.trim());
            }
        }
        check.holds("README.md shows calls", calls >= 20);
    }

    private void follow(String line) throws Exception {
        Matcher text = TEXT.matcher(line);
        Matcher call = CALL.matcher(line);
        if (line.equals("KnownTurns turns = new KnownTurns();")) {
            turns = new KnownTurns();
        } else if (text.matches()) {
            Check.type(turns, text.group(1));
        } else if (call.matches()) {
            calls++;
            check.due("README.md: " + line, answer(call.group(1), call.group(2)), Integer.parseInt(call.group(3)));
        } else {
            // What the loop over the text holds was done with the text.
            check.holds("README.md: " + line + " is understood", line.equals("turns.feed(c);") || line.equals("}"));
        }
    }

    private int answer(String name, String list) throws Exception {
        String[] words = list.isEmpty() ? new String[0] : list.split(", ");
        Class<?>[] types = new Class<?>[words.length];
        Object[] values = new Object[words.length];
        for (int i = 0; i < words.length; i++) {
            types[i] = int.class;
            values[i] = sum(words[i]);
        }
        return (int) KnownTurns.class.getMethod(name, types).invoke(turns, values);
    }

    private static int sum(String terms) {
        int sum = 0;
        for (String term : terms.split(" \\+ ")) {
            sum += Integer.parseInt(term);
        }
        return sum;
    }

    private void everyCallIsNamed() throws IOException {
        String page = page();
        for (Method method : KnownTurns.class.getDeclaredMethods()) {
            if (Modifier.isPublic(method.getModifiers())) {
                check.holds("README.md names " + method.getName(), page.contains("`" + method.getName() + "`"));
            }
        }
    }
}
