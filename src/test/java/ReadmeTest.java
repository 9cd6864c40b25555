import java.lang.reflect.Method;
import java.lang.reflect.Modifier;
import java.nio.file.Files;
import java.nio.file.Path;
import java.util.regex.Matcher;
import java.util.regex.Pattern;

/** README.md's examples, one object through all of them, answer what stands behind each call; no call is left out. */
public final class ReadmeTest {
    private static final Check CHECK = new Check("ReadmeTest");
    private static final Pattern TEXT = Pattern.compile("String text = \"([^\"]*)\";");
    private static final Pattern CALL = Pattern.compile("seek\\.(\\w+)\\(([^)]*)\\);\\s*// (-?\\d+|[A-Z]+)\\b.*");

    public static void main(String[] args) throws Exception {
        String page = Files.readString(Path.of(System.getProperty("project", "."), "README.md"));
        examples(page);
        everyMethodIsTold(page);
        CHECK.close();
    }

    private static void examples(String page) throws Exception {
        StrokeSeek seek = new StrokeSeek();
        Matcher blocks = Pattern.compile("(?s)```java\n(.*?)```").matcher(page);
        int calls = 0;
        while (blocks.find()) {
            for (String line : blocks.group(1).split("\n")) {
                Matcher text = TEXT.matcher(line);
                if (text.matches()) {
                    Check.tell(seek, text.group(1));
                }
                Matcher call = CALL.matcher(line);
                boolean isCall = call.matches();
                CHECK.due("an answer can be read: " + line, isCall || !line.contains("//") ? 1 : 0, 1);
                if (isCall) {
                    calls++;
                    CHECK.due(line, answer(seek, call.group(1), call.group(2)), number(call.group(3)));
                }
            }
        }
        CHECK.due("the examples were found", calls > 20 ? 1 : 0, 1);
    }

    private static int answer(StrokeSeek seek, String name, String arguments) throws Exception {
        String[] parts = arguments.isEmpty() ? new String[0] : arguments.split(", ");
        Class<?>[] types = new Class<?>[parts.length];
        Object[] values = new Object[parts.length];
        for (int i = 0; i < parts.length; i++) {
            types[i] = int.class;
            values[i] = parts[i].startsWith("'") ? (int) parts[i].charAt(1) : Integer.parseInt(parts[i]);
        }
        return (int) StrokeSeek.class.getMethod(name, types).invoke(seek, values);
    }

    private static int number(String word) throws Exception {
        boolean name = Character.isLetter(word.charAt(0));
        return name ? StrokeSeek.class.getField(word).getInt(null) : Integer.parseInt(word);
    }

    private static void everyMethodIsTold(String page) {
        for (Method method : StrokeSeek.class.getDeclaredMethods()) {
            if (Modifier.isPublic(method.getModifiers())) {
                boolean told = page.contains("| `" + method.getName() + "(");
                CHECK.due("README's tables tell " + method.getName(), told ? 1 : 0, 1);
            }
        }
    }
}
