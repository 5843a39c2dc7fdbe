import java.io.IOException;
import java.lang.reflect.Method;
import java.lang.reflect.Modifier;
import java.nio.file.Files;
import java.nio.file.Path;
import java.util.regex.Matcher;
import java.util.regex.Pattern;

/** README.md names every call and every constant, and the calls of its sample answer as it says. */
public final class ReadmeTest {
    private static final Pattern VILLAGE = Pattern.compile("String village = \"([^\"]*)\";");
    private static final Pattern CALL = Pattern.compile("(?m)^x\\.(\\w+)\\((.*)\\); +// (-?\\d+): ");

    public static void main(String[] args) throws ReflectiveOperationException, IOException {
        String page = Files.readString(Path.of("README.md"));
        namesAll(page);
        sampleHolds(page.substring(page.indexOf("```java"), page.indexOf("```\n", page.indexOf("```java"))));
        Check.end();
    }

    private static void namesAll(String page) {
        for (Method method : CoatBetween.class.getDeclaredMethods()) {
            if (Modifier.isPublic(method.getModifiers())) {
                String words = "";
                for (int i = 0; i < method.getParameterCount(); i++) {
                    words += i == 0 ? "\\w+" : ", \\w+";
                }
                Pattern call = Pattern.compile("\\| (`\\w+\\(\\)`, )?`" + method.getName() + "\\(" + words + "\\)`");
                Check.due("README.md names " + method.getName(), call.matcher(page).find() ? 1 : 0, 1);
            }
        }
        for (String name : new String[] {"BAD` | -1", "FULL` | -2", "FINDING` | -3", "STATE` | -4", "SPENT` | -6",
            "NONE` | -9"}) {
            Check.due("README.md names " + name, page.contains("| `" + name + " |") ? 1 : 0, 1);
        }
    }

    private static void sampleHolds(String sample) throws ReflectiveOperationException {
        Matcher village = VILLAGE.matcher(sample);
        Check.due("a village stands in the sample", village.find() ? 1 : 0, 1);
        CoatBetween x = new CoatBetween();
        Matcher call = CALL.matcher(sample);
        int calls = 0;
        while (call.find()) {
            String told = call.group(1) + "(" + call.group(2) + ") of the sample";
            Check.due(told, answer(x, call.group(1), call.group(2), village.group(1)), Integer.parseInt(call.group(3)));
            if (calls == 0) {
                Check.write(x, 0, village.group(1));
            }
            calls++;
        }
        Check.due("calls of the sample", calls, sample.split("\nx\\.").length - 1);
    }

    private static int answer(CoatBetween x, String name, String told, String village)
            throws ReflectiveOperationException {
        String[] words = told.isEmpty() ? new String[0] : told.split(", ");
        Class<?>[] types = new Class<?>[words.length];
        Object[] numbers = new Object[words.length];
        for (int i = 0; i < words.length; i++) {
            types[i] = int.class;
            numbers[i] = words[i].equals("village.length()") ? village.length() : Integer.parseInt(words[i]);
        }
        return ((Number) CoatBetween.class.getMethod(name, types).invoke(x, numbers)).intValue();
    }
}
