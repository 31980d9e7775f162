import java.io.IOException;
import java.lang.reflect.Method;
import java.lang.reflect.Modifier;
import java.nio.file.Files;
import java.nio.file.Path;
import java.util.regex.Matcher;
import java.util.regex.Pattern;

/** README.md: each call of its example answers what stands behind it; its table has each call of the face. */
public final class ReadmeTest {
    private static final Pattern CALL = Pattern.compile("x\\.(\\w+)\\((.*?)\\); +// (-?\\d+)");
    private static final Check C = new Check();

    public static void main(String[] args) throws IOException {
        String readme = Files.readString(Path.of("README.md"));
        example(readme);
        table(readme);
        C.end();
    }

    private static void example(String readme) {
        GraphSaver x = new GraphSaver();
        int begin = readme.indexOf("```java");
        String block = readme.substring(begin, readme.indexOf("```", begin + 3));
        int calls = 0;
        for (Matcher call = CALL.matcher(block); call.find(); calls++) {
            int got = Seen.call(x, call.group(1), numbers(call.group(2)));
            C.due(call.group(), got, Integer.parseInt(call.group(3)));
        }
        C.due("calls of the example", calls, block.split("x\\.", -1).length - 1);
        C.isTrue("the example has calls", calls > 0);
    }

    private static int[] numbers(String told) {
        String[] words = told.isEmpty() ? new String[0] : told.split(", ");
        int[] numbers = new int[words.length];
        for (int i = 0; i < words.length; i++) {
            boolean isSign = words[i].startsWith("'");
            numbers[i] = isSign ? words[i].charAt(1) : Integer.parseInt(words[i]);
        }
        return numbers;
    }

    private static void table(String readme) {
        String rows = readme.substring(readme.indexOf("| calls | for |"), readme.indexOf("What is refused"));
        for (Method method : GraphSaver.class.getDeclaredMethods()) {
            if (Modifier.isPublic(method.getModifiers())) {
                C.due("rows with " + method.getName(), rows.split("`" + method.getName() + "`", -1).length - 1, 1);
            }
        }
    }
}
