import java.io.IOException;
import java.lang.reflect.Method;
import java.lang.reflect.Modifier;
import java.nio.file.Files;
import java.nio.file.Path;
import java.util.regex.Matcher;
import java.util.regex.Pattern;

/** README.md names each call, and its example answers as its comments say. */
public final class ReadmeTest {
    private static final Check CHECK = new Check("ReadmeTest");
    private static final Pattern EXAMPLE = Pattern.compile("(?s)```java\n(.*?)```");
    private static final Pattern FEEDING = Pattern.compile("for \\(char c : \"([^\"]*)\"\\.toCharArray\\(\\)\\) \\{");
    private static final Pattern CALL = Pattern.compile("x\\.(\\w+\\([^)]*\\)); +// (-?\\d+)\\b.*");

    public static void main(String[] args) throws IOException {
        String readme = Files.readString(Path.of("README.md"));
        for (Method m : HeelDance.class.getDeclaredMethods()) {
            if (Modifier.isPublic(m.getModifiers())) {
                CHECK.holds("README.md names " + m.getName(), readme.contains("`" + m.getName() + "`"));
            }
        }
        Matcher example = EXAMPLE.matcher(readme);
        CHECK.holds("README.md has an example", example.find());
        run(example.group(1).replace("{\n    x.feed(c);\n}", "{").split("\n"));
        CHECK.close();
    }

    private static void run(String[] lines) {
        CHECK.holds("the example makes an object first", lines[0].equals("HeelDance x = new HeelDance();"));
        HeelDance x = new HeelDance();
        for (int i = 1; i < lines.length; i++) {
            Matcher feeding = FEEDING.matcher(lines[i]);
            Matcher call = CALL.matcher(lines[i]);
            if (feeding.matches()) {
                feeding.group(1).chars().forEach(x::feed);
            } else if (call.matches()) {
                CHECK.due(lines[i], Run.answer(x, call.group(1)), Long.parseLong(call.group(2)));
            } else {
                CHECK.holds("a line that this test understands: " + lines[i], false);
            }
        }
    }
}
