import java.io.IOException;
import java.lang.reflect.Constructor;
import java.lang.reflect.Field;
import java.lang.reflect.Method;
import java.lang.reflect.Modifier;
import java.nio.file.Files;
import java.nio.file.Path;
import java.util.Arrays;
import java.util.Set;
import java.util.TreeSet;
import java.util.regex.Matcher;
import java.util.regex.Pattern;

/** The public face as the document lists it, and those rules of LANGUAGE.md that can be seen from the text. */
public final class LanguageTest {
    private static final Path SOURCE = Path.of("src/main/java/BackToTheFirstStone.java");
    private static final Path DOCUMENT = Path.of("../shared/DOC.md");

    public static void main(String[] args) throws IOException {
        face();
        names();
        source();
        Checks.end("LanguageTest");
    }

    private static void is(String what, boolean holds) {
        Checks.is(what, holds ? 1 : 0, 1);
    }

    private static void face() throws IOException {
        Set<String> due = new TreeSet<>();
        String face = Files.readString(DOCUMENT).split("## The public face")[1].split("```")[1];
        Matcher method = Pattern.compile("public (int|long) (\\w+)\\((.*?)\\);").matcher(face);
        while (method.find()) due.add(method.group(1) + " " + method.group(2) + "(" + typesOf(method.group(3)) + ")");
        Set<String> found = new TreeSet<>();
        for (Method one : BackToTheFirstStone.class.getDeclaredMethods()) {
            if (Modifier.isPrivate(one.getModifiers())) continue;
            is(one.getName() + " is public", Modifier.isPublic(one.getModifiers()));
            String types = Arrays.toString(one.getParameterTypes()).replaceAll("[\\[\\] ]", "");
            found.add(one.getReturnType() + " " + one.getName() + "(" + types + ")");
        }
        is("the face " + due + " is " + found, due.size() == 38 - 1 && due.equals(found));
        is("final", Modifier.isFinal(BackToTheFirstStone.class.getModifiers()));
        Constructor<?>[] made = BackToTheFirstStone.class.getDeclaredConstructors();
        is("one constructor", made.length == 1 && made[0].getParameterCount() == 0);
        for (Field field : BackToTheFirstStone.class.getDeclaredFields()) {
            is("field " + field.getName(), Modifier.isPrivate(field.getModifiers()) || field.getName().equals("NONE"));
        }
    }

    private static String typesOf(String parameters) {
        return parameters.replaceAll(" \\w+(,|$) ?", "$1");
    }

    private static void names() {
        Set<String> open = new TreeSet<>();
        for (Method one : BackToTheFirstStone.class.getDeclaredMethods()) {
            if (Modifier.isPublic(one.getModifiers())) open.add(one.getName());
        }
        Class<?>[] inside = BackToTheFirstStone.class.getDeclaredClasses();
        is("some twelve classes", inside.length < 12);
        for (Class<?> one : inside) {
            is(one + " is static", Modifier.isStatic(one.getModifiers()) && !Modifier.isPublic(one.getModifiers()));
            for (Method method : one.getDeclaredMethods()) is(one + "'s " + method.getName(), !open.contains(method.getName()));
            for (Method method : one.getDeclaredMethods()) is("parameters of " + method, method.getParameterCount() <= 7);
        }
        for (Method method : BackToTheFirstStone.class.getDeclaredMethods()) {
            boolean hidden = Modifier.isPrivate(method.getModifiers());
            is("private " + method.getName(), !hidden || !open.contains(method.getName()));
        }
    }

    private static void source() throws IOException {
        String source = Files.readString(SOURCE);
        String code = source.replaceAll("(?s)/\\*.*?\\*/", "").replaceAll("//.*", "").replaceAll("\"[^\"\n]*\"", "\"\"");
        String banned = "\\b(throw|throws|try|catch|finally|synchronized|assert|import|package|new Thread|static \\{|var"
            + "|volatile|transient|native|hashCode|toString|Exception|Error)\\b|->|::|\\w+Exact\\b";
        Matcher word = Pattern.compile(banned).matcher(code);
        while (word.find()) is("'" + word.group() + "' in the code", false);
        is("no static state", !Pattern.compile("\\bstatic (?!final|int \\w+\\(|long \\w+\\(|boolean \\w+\\(|String \\w+\\()")
            .matcher(code).find());
        int length = 0;
        for (String line : code.split("\n")) {
            length = line.isBlank() ? 0 : length + 1;
            is("a run of lines without a blank one stays short: " + line, length <= 60);
        }
        for (char sign : source.toCharArray()) is("a sign of 1 to 127", sign >= 1 && sign <= 127);
    }
}
