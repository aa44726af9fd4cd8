import java.io.IOException;
import java.lang.reflect.InvocationTargetException;
import java.lang.reflect.Method;
import java.lang.reflect.Modifier;
import java.nio.file.DirectoryStream;
import java.nio.file.Files;
import java.nio.file.Path;
import java.util.regex.Matcher;
import java.util.regex.Pattern;

/** README.md: its examples, one run of calls, answer what stands behind them; all calls and tests are named. */
public final class ReadmeTest {
    private static final Pattern BLOCK = Pattern.compile("(?s)```java\n(.*?)```");
    private static final Pattern CALL = Pattern.compile("x\\.(\\w+)\\(([^)]*)\\);\\s+// (-?\\w+): .+");
    private static final String MADE = "ShyBell x = new ShyBell();";

    private static int wrong;

    public static void main(String[] args) throws IOException {
        String readme = Files.readString(Path.of(args.length > 0 ? args[0] : "README.md"));
        examples(readme);
        names(readme);
        System.out.println(wrong == 0 ? "readme: holds" : "readme: " + wrong + " wrong");
        System.exit(wrong == 0 ? 0 : 1);
    }

    private static void is(boolean right, String what) {
        if (!right) {
            wrong++;
            System.out.println(what);
        }
    }

    private static void examples(String readme) {
        ShyBell x = new ShyBell();
        int calls = 0;
        int made = 0;
        Matcher block = BLOCK.matcher(readme);
        while (block.find()) {
            for (String line : block.group(1).split("\n")) {
                Matcher call = CALL.matcher(line);
                if (line.equals(MADE)) {
                    made++;
                } else if (!line.isBlank()) {
                    calls++;
                    is(call.matches(), "no call with its answer behind it: " + line);
                    is(!call.matches() || answer(x, call.group(1), call.group(2)).equals(call.group(3)), line);
                }
            }
        }
        is(made == 1 && calls > 0, "one object is made and asked");
    }

    private static String answer(ShyBell x, String name, String told) {
        for (Method m : ShyBell.class.getDeclaredMethods()) {
            if (m.getName().equals(name)) {
                try {
                    return String.valueOf(m.invoke(x, numbers(m.getParameterTypes(), told)));
                } catch (InvocationTargetException e) {
                    return e.getCause().getClass().getSimpleName();
                } catch (IllegalAccessException e) {
                    return "hidden";
                }
            }
        }
        return "no such call";
    }

    private static Object[] numbers(Class<?>[] types, String told) {
        String[] words = told.isBlank() ? new String[0] : told.split(",\\s*");
        is(words.length == types.length, "as many numbers as the call takes: " + told);
        Object[] found = new Object[types.length];
        for (int i = 0; i < types.length; i++) {
            String word = i < words.length ? words[i] : "0";
            found[i] = types[i] == boolean.class ? (Object) Boolean.valueOf(word)
                : types[i] == long.class ? (Object) Long.decode(word) : (Object) Integer.decode(word);
        }
        return found;
    }

    private static void names(String readme) throws IOException {
        for (Method m : ShyBell.class.getDeclaredMethods()) {
            is(!Modifier.isPublic(m.getModifiers()) || readme.contains("`" + m.getName() + "("),
                "the call " + m.getName() + " is not named");
        }
        try (DirectoryStream<Path> files = Files.newDirectoryStream(Path.of("src/test/java"), "*Test.java")) {
            for (Path file : files) {
                is(readme.contains("src/test/java/" + file.getFileName()), file + " is not named");
            }
        }
        is(readme.contains(".ci/run"), "how the tests are run");
    }
}
