import java.io.IOException;
import java.lang.reflect.Method;
import java.lang.reflect.Modifier;
import java.nio.file.Files;
import java.nio.file.Path;
import java.util.regex.Matcher;
import java.util.regex.Pattern;

/** README.md says how to use the class: its example answers what it says, and every call is named. */
public final class ReadmeTest {
    private static final Check CHECK = new Check();

    public static void main(String[] args) throws IOException, ReflectiveOperationException {
        String page = Files.readString(Path.of("README.md"));
        example(page);
        everyCallIsNamed(page);
        CHECK.end();
    }

    private static void example(String page) throws ReflectiveOperationException {
        Matcher text = Pattern.compile("String text = \"([^\"]*)\";").matcher(page);
        CHECK.due("the example has a text", text.find() ? 1 : 0, 1);
        FeastRota rota = new FeastRota();
        Check.feed(rota, text.group(1));
        Matcher line = Pattern.compile("(?m)^rota\\.(\\w+)\\(([^)]*)\\);\\s*// (-?\\d+)").matcher(page);
        int lines = 0;
        while (line.find()) {
            lines++;
            CHECK.due(line.group(), answer(rota, line.group(1), line.group(2)), Integer.parseInt(line.group(3)));
        }
        CHECK.due("lines of the example", lines, 7);
    }

    private static int answer(FeastRota rota, String name, String numbers) throws ReflectiveOperationException {
        String[] parts = numbers.isEmpty() ? new String[0] : numbers.split(", ");
        Class<?>[] types = new Class<?>[parts.length];
        Object[] values = new Object[parts.length];
        for (int i = 0; i < parts.length; i++) {
            types[i] = int.class;
            values[i] = Integer.valueOf(parts[i]);
        }
        return (Integer) FeastRota.class.getMethod(name, types).invoke(rota, values);
    }

    private static void everyCallIsNamed(String page) {
        for (Method m : FeastRota.class.getDeclaredMethods()) {
            if (Modifier.isPublic(m.getModifiers())) {
                CHECK.due(m.getName() + " is named", page.contains("`" + m.getName() + "`") ? 1 : 0, 1);
            }
        }
    }
}
