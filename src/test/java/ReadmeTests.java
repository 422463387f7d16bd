import java.io.IOException;
import java.lang.reflect.InvocationTargetException;
import java.lang.reflect.Method;
import java.lang.reflect.Modifier;
import java.nio.charset.StandardCharsets;
import java.nio.file.Files;
import java.nio.file.Path;
import java.nio.file.Paths;
import java.util.regex.Matcher;
import java.util.regex.Pattern;

/** README.md: each call in its examples answers as is told behind it, and every call of the face is named. */
public final class ReadmeTests {
    private static final Pattern CALL = Pattern.compile("x\\.(\\w+)\\(([^)]*)\\); +// (throws \\w+|[-\\w]+)(: .*)?");
    private static final Pattern QUOTED = Pattern.compile(": \"(.*)\"");

    private static final Due due = new Due("readme");
    private static SeasonWalks x;

    private ReadmeTests() {
    }

    public static void main(String[] args) throws IOException, IllegalAccessException {
        Path root = Paths.get(args[0]).toAbsolutePath().getParent().getParent().getParent().getParent();
        String text = new String(Files.readAllBytes(root.resolve("README.md")), StandardCharsets.US_ASCII);
        everyCallIsNamed(text);
        boolean code = false;
        int examples = 0;
        for (String line : text.split("\n")) {
            if (line.startsWith("```")) {
                code = line.equals("```java");
            } else if (code && line.equals("SeasonWalks x = new SeasonWalks();")) {
                x = new SeasonWalks();
                examples++;
            } else if (code) {
                call(line);
            }
        }
        due.is("examples", examples > 0, true);
        due.close();
    }

    private static void everyCallIsNamed(String text) {
        for (Method method : SeasonWalks.class.getDeclaredMethods()) {
            if (Modifier.isPublic(method.getModifiers())) {
                due.is(method.getName() + "() is named", text.contains("`" + method.getName() + "()`"), true);
            }
        }
    }

    private static void call(String line) throws IllegalAccessException {
        Matcher parts = CALL.matcher(line);
        if (!parts.matches()) {
            due.tell("a line that is no call with its answer: " + line);
            return;
        }
        String[] told = parts.group(2).isEmpty() ? new String[0] : parts.group(2).split(", ");
        Object[] given = new Object[told.length];
        for (int i = 0; i < told.length; i++) {
            given[i] = told[i].matches("true|false") ? (Object) Boolean.valueOf(told[i]) : Integer.decode(told[i]);
        }
        due.is(line, answer(parts.group(1), given), parts.group(3));
        Matcher quoted = QUOTED.matcher(parts.group(4) == null ? "" : parts.group(4));
        if (quoted.matches()) {
            due.is(line, bytes(given).replaceAll("\0+$", ""), quoted.group(1));
        }
    }

    private static String answer(String name, Object[] given) throws IllegalAccessException {
        for (Method method : SeasonWalks.class.getDeclaredMethods()) {
            if (Modifier.isPublic(method.getModifiers()) && method.getName().equals(name)) {
                try {
                    return String.valueOf(method.invoke(x, given));
                } catch (InvocationTargetException thrown) {
                    return "throws " + thrown.getCause().getClass().getSimpleName();
                }
            }
        }
        return "no such call";
    }

    private static String bytes(Object[] numbers) {
        StringBuilder all = new StringBuilder();
        for (Object number : numbers) {
            for (int shift = 24; shift >= 0; shift -= 8) {
                all.append((char) ((Integer) number >> shift & 255));
            }
        }
        return all.toString();
    }
}
