import java.io.IOException;
import java.lang.reflect.Constructor;
import java.lang.reflect.Field;
import java.lang.reflect.Method;
import java.lang.reflect.Modifier;
import java.nio.file.Files;
import java.nio.file.Path;
import java.util.ArrayList;
import java.util.Arrays;
import java.util.List;
import java.util.Set;
import java.util.TreeSet;
import java.util.regex.Matcher;
import java.util.regex.Pattern;

/** The public face as the document lists it, and those rules of LANGUAGE.md that can be seen from the text. */
public final class LanguageTest {
    private static final Path SOURCE = Path.of("src/main/java/BackToTheFirstStone.java");
    private static final Path DOCUMENT = Path.of("../shared/DOC.md");

    public static void main(String[] args) throws IOException {
        face();
        names();
        fields();
        source();
        library();
        lengths();
        newObjects();
        Checks.end("LanguageTest");
    }

    private static void is(String what, boolean holds) {
        Checks.is(what, holds ? 1 : 0, 1);
    }

    private static void face() throws IOException {
        Set<String> due = new TreeSet<>();
        String face = Files.readString(DOCUMENT).split("## The public face")[1].split("```")[1];
        Matcher method = Pattern.compile("public (int|long) (\\w+)\\((.*?)\\);").matcher(face);
        while (method.find()) due.add(method.group(1) + " " + method.group(2) + "(" + typesOf(method.group(3)) + ")");
        Set<String> found = new TreeSet<>();
        for (Method one : BackToTheFirstStone.class.getDeclaredMethods()) {
            if (Modifier.isPrivate(one.getModifiers())) continue;
            is(one.getName() + " is public", Modifier.isPublic(one.getModifiers()));
            String types = Arrays.toString(one.getParameterTypes()).replaceAll("[\\[\\] ]", "");
            found.add(one.getReturnType() + " " + one.getName() + "(" + types + ")");
        }
        is("the face " + due + " is " + found, due.size() == 38 - 1 && due.equals(found));
        is("final", Modifier.isFinal(BackToTheFirstStone.class.getModifiers()));
        Constructor<?>[] made = BackToTheFirstStone.class.getDeclaredConstructors();
        is("one constructor", made.length == 1 && made[0].getParameterCount() == 0);
        for (Field field : BackToTheFirstStone.class.getDeclaredFields()) {
            is("field " + field.getName(), Modifier.isPrivate(field.getModifiers()) || field.getName().equals("NONE"));
        }
    }

    private static String typesOf(String parameters) {
        return parameters.replaceAll(" \\w+(,|$) ?", "$1");
    }

    private static void names() {
        Set<String> open = new TreeSet<>();
        for (Method one : BackToTheFirstStone.class.getDeclaredMethods()) {
            if (Modifier.isPublic(one.getModifiers())) open.add(one.getName());
        }
        Class<?>[] inside = BackToTheFirstStone.class.getDeclaredClasses();
        is("some twelve classes", inside.length < 12);
        for (Class<?> one : inside) {
            is(one + " is static", Modifier.isStatic(one.getModifiers()) && !Modifier.isPublic(one.getModifiers()));
            for (Method method : one.getDeclaredMethods()) is(one + "'s " + method.getName(), !open.contains(method.getName()));
            for (Method method : one.getDeclaredMethods()) is("parameters of " + method, method.getParameterCount() <= 7);
        }
        for (Method method : BackToTheFirstStone.class.getDeclaredMethods()) {
            boolean hidden = Modifier.isPrivate(method.getModifiers());
            is("private " + method.getName(), !hidden || !open.contains(method.getName()));
        }
    }

    // Rules 3, 5 and 11: what is static is final and never changed; some twenty fields beside constants.
    private static void fields() throws IOException {
        Set<Class<?>> constants = Set.of(int.class, long.class, boolean.class, char.class, String.class,
            int[].class, long[].class, char[].class, byte[].class);
        List<Class<?>> all = new ArrayList<>(List.of(BackToTheFirstStone.class.getDeclaredClasses()));
        all.add(BackToTheFirstStone.class);
        String code = code();
        for (Class<?> one : all) {
            int ownFields = 0;
            for (Field field : one.getDeclaredFields()) {
                if (!Modifier.isStatic(field.getModifiers())) {
                    ownFields++;
                    continue;
                }
                is(field + " is final", Modifier.isFinal(field.getModifiers()));
                is(field + " is a constant", constants.contains(field.getType()));
                String changed = "\\b" + field.getName() + "(\\[[^\\]]*\\])\\s*([-+*/|&^]?=[^=]|\\+\\+|--)";
                is(field + " is never changed", !Pattern.compile(changed).matcher(code).find());
            }
            is(one + " has some twenty fields at most", ownFields <= 20);
        }
    }

    private static String code() throws IOException {
        return Files.readString(SOURCE).replaceAll("(?s)/\\*.*?\\*/", "").replaceAll("//.*", "")
            .replaceAll("\"[^\"\n]*\"", "\"\"");
    }

    // Rule 4: of the library nothing but these; rule 10: no text is joined by +.
    private static void library() throws IOException {
        String code = code();
        Set<String> own = new TreeSet<>(Set.of("BackToTheFirstStone", "String"));
        for (Class<?> one : BackToTheFirstStone.class.getDeclaredClasses()) own.add(one.getSimpleName());
        Set<String> taken = Set.of("Math.abs", "Math.max", "Math.min", "Integer.signum", "System.arraycopy");
        Matcher type = Pattern.compile("(?<![\\w.])([A-Z][a-z]\\w*)(\\.\\w+)?").matcher(code);
        while (type.find()) is("'" + type.group() + "'", own.contains(type.group(1)) || taken.contains(type.group()));
        Matcher onText = Pattern.compile("\\bwhole\\.(\\w+)").matcher(code);
        while (onText.find()) is("'" + onText.group() + "'", Set.of("length", "charAt").contains(onText.group(1)));
        is("no text is joined", !Pattern.compile("\"\" *\\+|\\+ *\"\"").matcher(code).find());
        is("no double, no float", !Pattern.compile("\\b(double|float)\\b").matcher(code).find());
    }

    // Rule 11: methods stay short.
    private static void lengths() throws IOException {
        int begin = 0;
        String[] lines = code().split("\n");
        for (int i = 0; i < lines.length; i++) {
            if (lines[i].matches(" {4}( {4})?\\S.*\\) \\{")) begin = i;
            if (lines[i].matches(" {4}( {4})?\\}")) is("the method that ends in line " + i + " is short", i - begin <= 60);
        }
    }

    // Rule 12, and the room of a run: rows are made with the object, by no call.
    private static void newObjects() throws IOException {
        for (String line : code().split("\n")) {
            if (!line.matches(".*\\bnew\\b.*|.*\\.clone\\(.*")) continue;
            boolean isField = line.matches(" {8}private final \\S+ \\w+ = new .*");
            boolean isMade = line.matches(" {8}\\w+ = new \\S+(\\(\\)|\\[.*\\]);");
            is("made with the object: " + line, isField || isMade && Pattern.compile("(?m)^ {4}private final \\S+ "
                + line.strip().split(" ")[0] + ";").matcher(code()).find());
        }
    }

    private static void source() throws IOException {
        String source = Files.readString(SOURCE);
        String code = code();
        String banned = "\\b(throw|throws|try|catch|finally|synchronized|assert|import|package|new Thread|static \\{|var"
            + "|volatile|transient|native|hashCode|toString|Exception|Error)\\b|->|::|\\w+Exact\\b";
        Matcher word = Pattern.compile(banned).matcher(code);
        while (word.find()) is("'" + word.group() + "' in the code", false);
        is("no static state", !Pattern.compile("\\bstatic (?!final|int \\w+\\(|long \\w+\\(|boolean \\w+\\(|String \\w+\\()")
            .matcher(code).find());
        int length = 0;
        for (String line : code.split("\n")) {
            length = line.isBlank() ? 0 : length + 1;
            is("a run of lines without a blank one stays short: " + line, length <= 60);
        }
        for (char sign : source.toCharArray()) is("a sign of 1 to 127", sign >= 1 && sign <= 127);
    }
}
