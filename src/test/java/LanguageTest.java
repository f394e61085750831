import java.io.IOException;
import java.lang.reflect.Modifier;
import java.nio.file.Files;
import java.nio.file.Path;
import java.util.Arrays;
import java.util.List;
import java.util.TreeSet;
import java.util.regex.Matcher;
import java.util.regex.Pattern;

/** The public face, and those rules of LANGUAGE.md that can be read off the source. */
public final class LanguageTest {
    private static final Check CHECK = new Check("LanguageTest");
    private static final List<String> FACE = List.of("feed(int)", "end(int)", "text()", "fault()", "rule(int)", "man(int,int)",
        "woman(int)", "at(int)", "figure(int)", "cousins(int)", "alter(int,int,int)", "swap(int,int)", "kin(int,int,boolean)",
        "plan(int)", "cut(int)", "dance(int)", "runs(int)", "ahead(int,int)", "meets(int,int)", "never(int)", "period(int)",
        "best(int,int)", "orders(int)", "again(int)", "coins(int)", "luck(int,int,int)", "mean(int,int)", "see(int,int,int)",
        "forget(int)", "bent()", "heights(int)", "shoes(int)", "drift(int,int,int)", "keep(int)", "back(int)",
        "sheet(int,int,int)", "lay(int,int,int)", "read(int,int,int,int)", "torn()", "count(int)");

    public static void main(String[] args) throws IOException {
        face();
        names();
        source(Files.readString(Path.of("src/main/java/HeelDance.java")));
        CHECK.close();
    }

    private static void face() {
        CHECK.holds("public and final", HeelDance.class.getModifiers() == (Modifier.PUBLIC | Modifier.FINAL));
        CHECK.due("BAD", HeelDance.BAD, -1);
        CHECK.due("STATE", HeelDance.STATE, -2);
        CHECK.due("FULL", HeelDance.FULL, -3);
        CHECK.due("NONE", HeelDance.NONE, -4);
        TreeSet<String> found = new TreeSet<>();
        for (var m : HeelDance.class.getDeclaredMethods()) {
            if (Modifier.isPrivate(m.getModifiers())) {
                continue;
            }
            String types = String.join(",", Arrays.stream(m.getParameterTypes()).map(Class::getName).toList());
            found.add(m.getName() + "(" + types + ")");
            boolean isLong = m.getName().equals("luck") || m.getName().equals("mean");
            CHECK.holds(m + " answers as told", m.getReturnType() == (isLong ? long.class : int.class));
            CHECK.due(m + " is public", m.getModifiers(), Modifier.PUBLIC);
        }
        CHECK.holds("the methods are " + found, found.equals(new TreeSet<>(FACE)));
        int constants = 0;
        for (var f : HeelDance.class.getDeclaredFields()) {
            if (Modifier.isPublic(f.getModifiers())) {
                constants++;
            } else {
                CHECK.holds(f + " is private", Modifier.isPrivate(f.getModifiers()));
            }
        }
        CHECK.due("public constants", constants, 4);
        CHECK.due("constructors", HeelDance.class.getDeclaredConstructors().length, 1);
    }

    private static void names() {
        TreeSet<String> taken = new TreeSet<>();
        FACE.forEach(f -> taken.add(f.substring(0, f.indexOf('('))));
        CHECK.holds("at most twelve classes", HeelDance.class.getDeclaredClasses().length < 12);
        for (Class<?> c : HeelDance.class.getDeclaredClasses()) {
            CHECK.holds(c + " is static", Modifier.isStatic(c.getModifiers()));
            CHECK.holds(c + " has few fields",
                Arrays.stream(c.getDeclaredFields()).filter(f -> !Modifier.isStatic(f.getModifiers())).count() <= 20);
            for (var m : c.getDeclaredMethods()) {
                CHECK.holds(m + " bears no name of the face", !taken.contains(m.getName()));
                CHECK.holds(m + " takes seven at most", m.getParameterCount() <= 7);
            }
        }
        for (var m : HeelDance.class.getDeclaredMethods()) {
            CHECK.holds(m + " bears no name of the face",
                Modifier.isPublic(m.getModifiers()) || !taken.contains(m.getName()));
        }
    }

    private static void source(String whole) {
        String code = whole.replaceAll("(?s)/\\*.*?\\*/", "").replaceAll("//[^\n]*", "").replaceAll("\"[^\"]*\"", "\"\"");
        for (String word : List.of("throw", "throws", "try", "catch", "synchronized", "assert", "package", "Object", "System\\.out",
            "hashCode", "toString", "volatile", "transient", "native", "protected", "double", "float")) {
            CHECK.holds("no " + word, !Pattern.compile("\\b" + word + "\\b").matcher(code).find());
        }
        CHECK.holds("no lambda", !code.contains("->"));
        CHECK.holds("no method reference", !code.contains("::"));
        Matcher imports = Pattern.compile("import ([^;]*);").matcher(code);
        while (imports.find()) {
            CHECK.holds("import " + imports.group(1), imports.group(1).matches("java\\.util\\.(Arrays|ArrayList|List)"));
        }
        Matcher fields = Pattern.compile("static ([a-z]+) [A-Za-z\\[\\]]+ \\w+ *[=;]").matcher(code);
        while (fields.find()) {
            CHECK.holds(fields.group() + " is final", fields.group(1).equals("final"));
        }
        methodsAreShort(code.split("\n"));
    }

    /** A method opens at one level of indentation and closes at the same. */
    private static void methodsAreShort(String[] lines) {
        for (int i = 0; i < lines.length; i++) {
            if (lines[i].matches(" +[^ ].*\\) \\{") && !lines[i].matches(" *(\\}.*|if|for|while|switch|else|do)\\b.*")) {
                String close = lines[i].replaceAll("[^ ].*", "") + "}";
                int last = i;
                while (last < lines.length - 1 && !lines[last].equals(close)) {
                    last++;
                }
                CHECK.holds(lines[i].trim() + " is short", last - i < 60);
            }
        }
    }
}
