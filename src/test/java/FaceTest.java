import java.io.IOException;
import java.lang.reflect.Constructor;
import java.lang.reflect.Field;
import java.lang.reflect.Method;
import java.lang.reflect.Modifier;
import java.nio.file.Files;
import java.nio.file.Path;
import java.util.ArrayList;
import java.util.Arrays;
import java.util.List;
import java.util.Map;
import java.util.TreeMap;
import java.util.TreeSet;
import java.util.regex.Matcher;
import java.util.regex.Pattern;

/** The public face is that of the document: constants, constructor, methods, what the interface says ahead of them. */
public final class FaceTest {
    private static final Check CHECK = new Check("FaceTest");
    private static final Pattern MEMBER = Pattern.compile("    (public [^;=]*\\));");
    private static final Pattern CONSTANTS = Pattern.compile("    public static final int ([^;]*);");
    private static final Pattern HEADING = Pattern.compile("Ahead of the calls (.*) the interface says: (.*)\\.");

    private final String doc = Files.readString(Path.of("../shared/DOC.md"));
    private final String source = Files.readString(Path.of("src/main/java/HeelDance.java"));

    private FaceTest() throws IOException {
    }

    public static void main(String[] args) throws ReflectiveOperationException, IOException {
        FaceTest test = new FaceTest();
        test.classItself();
        test.constants();
        test.members();
        test.headings();
        CHECK.close();
    }

    private void classItself() {
        CHECK.holds("the document's line of the class", source.contains("\npublic final class HeelDance {\n")
            && doc.contains("\npublic final class HeelDance {\n"));
        CHECK.holds("no class above, nothing implemented", HeelDance.class.getSuperclass() == Object.class
            && HeelDance.class.getInterfaces().length == 0);
    }

    private void constants() throws ReflectiveOperationException {
        Map<String, Integer> told = new TreeMap<>();
        Matcher line = CONSTANTS.matcher(doc);
        while (line.find()) {
            for (String each : line.group(1).split(", ")) {
                told.put(each.substring(0, each.indexOf(" = ")), Integer.valueOf(each.substring(each.indexOf(" = ") + 3)));
            }
        }
        Map<String, Integer> found = new TreeMap<>();
        for (Field f : HeelDance.class.getDeclaredFields()) {
            if (!Modifier.isPrivate(f.getModifiers())) {
                CHECK.due(f + " is public, static, final", f.getModifiers(), Modifier.PUBLIC | Modifier.STATIC | Modifier.FINAL);
                CHECK.holds(f + " is an int", f.getType() == int.class);
                found.put(f.getName(), f.getInt(null));
            }
        }
        CHECK.due("constants told", told.size(), 4);
        CHECK.holds("the constants are " + found, found.equals(told));
    }

    private void members() {
        TreeSet<String> told = new TreeSet<>();
        Matcher line = MEMBER.matcher(doc);
        while (line.find()) {
            CHECK.holds(line.group(1) + " stands as told, with its names", source.contains("\n    " + line.group(1) + " {\n"));
            told.add(line.group(1).replaceAll(" \\w+(?=[,)])", "").replace(", ", ","));
        }
        TreeSet<String> found = new TreeSet<>();
        for (Method m : HeelDance.class.getDeclaredMethods()) {
            if (!Modifier.isPrivate(m.getModifiers())) {
                found.add(Modifier.toString(m.getModifiers()) + " " + m.getReturnType() + " " + m.getName() + types(m.getParameterTypes()));
            }
        }
        for (Constructor<?> c : HeelDance.class.getDeclaredConstructors()) {
            found.add(Modifier.toString(c.getModifiers()) + " " + c.getName() + types(c.getParameterTypes()));
        }
        CHECK.due("members told", told.size(), 41);
        CHECK.holds("the members are " + found, found.equals(told));
    }

    private static String types(Class<?>[] types) {
        return "(" + String.join(",", Arrays.stream(types).map(Class::getName).toList()) + ")";
    }

    /** In the source each heading stands ahead of its calls, in the document's order, and of no other. */
    private void headings() {
        List<String> told = new ArrayList<>();
        Matcher line = HEADING.matcher(doc);
        while (line.find()) {
            told.add(line.group(2));
            told.addAll(Arrays.asList(line.group(1).replace("`", "").split(", ")));
        }
        List<String> found = new ArrayList<>();
        Matcher inSource = Pattern.compile("\n    (?:// (----.*)|public (?:int|long) (\\w+)\\(.*)").matcher(source);
        while (inSource.find()) {
            found.add(inSource.group(1) != null ? inSource.group(1) : inSource.group(2));
        }
        // a heading of the class's own opens what the calls share
        CHECK.due("headings and calls told", told.size(), 48);
        CHECK.holds("they stand in the order " + found, found.size() >= 48 && found.subList(0, 48).equals(told));
        CHECK.holds("no call behind them", found.stream().skip(48).allMatch(f -> f.startsWith("----")));
    }
}
