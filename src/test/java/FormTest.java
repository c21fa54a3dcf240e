import java.io.IOException;
import java.lang.reflect.Constructor;
import java.lang.reflect.Field;
import java.lang.reflect.Method;
import java.lang.reflect.Modifier;
import java.nio.charset.StandardCharsets;
import java.nio.file.Files;
import java.nio.file.Path;
import java.util.Arrays;
import java.util.Set;
import java.util.TreeSet;
import java.util.regex.Matcher;
import java.util.regex.Pattern;

/** The public face, and words that LANGUAGE.md rules out. Run from the project's root, as .ci/run does. */
public final class FormTest {
    private static final Set<String> FACE = new TreeSet<>(Arrays.asList(
        "note 5", "mark 3", "key 2", "clef 2", "rule 2", "drop 0", "count 1", "ordered 1", "sign 2", "extent 2",
        "dot 1", "keySigns 1", "keySign 3"));
    private static final Set<String> CONSTANTS = new TreeSet<>(Arrays.asList(
        "NONE -1", "UNKNOWN -2", "OUTSIDE -3", "WRONG -4", "ROOM -5"));
    private static int wrong;

    private static void check(boolean holds, String otherwise) {
        if (!holds) {
            wrong++;
            System.out.println(otherwise);
        }
    }

    public static void main(String[] args) throws IOException, IllegalAccessException {
        face();
        inside();
        words();
        System.out.println(wrong == 0 ? "the form is kept" : wrong + " faults of form");
        if (wrong != 0) {
            System.exit(1);
        }
    }

    private static void face() throws IllegalAccessException {
        Class<?> c = SignDots.class;
        check(Modifier.isPublic(c.getModifiers()) && Modifier.isFinal(c.getModifiers()), "the class is not public and final");
        Set<String> methods = new TreeSet<>();
        for (Method m : c.getDeclaredMethods()) {
            if (Modifier.isPrivate(m.getModifiers())) continue;
            methods.add(m.getName() + " " + m.getParameterCount());
            check(Modifier.isPublic(m.getModifiers()) && !Modifier.isStatic(m.getModifiers()), m + " is not as told");
            check(m.getReturnType() == int.class, m + " does not answer an int");
            for (Class<?> p : m.getParameterTypes()) check(p == int.class, m + " takes more than ints");
        }
        check(methods.equals(FACE), "the methods are " + methods);
        Set<String> constants = new TreeSet<>();
        for (Field f : c.getDeclaredFields()) {
            if (!Modifier.isPrivate(f.getModifiers())) constants.add(f.getName() + " " + f.getInt(null));
        }
        check(constants.equals(CONSTANTS), "the constants are " + constants);
        Constructor<?>[] made = c.getDeclaredConstructors();
        check(made.length == 1 && Modifier.isPublic(made[0].getModifiers()) && made[0].getParameterCount() == 0,
            "the constructor is not as told");
    }

    private static void inside() {
        Class<?>[] classes = SignDots.class.getDeclaredClasses();
        check(classes.length <= 12, "more than twelve classes");
        for (Class<?> c : classes) {
            check(Modifier.isStatic(c.getModifiers()), c + " is not static");
            members(c);
        }
        members(SignDots.class);
    }

    private static void members(Class<?> c) {
        int fields = 0;
        for (Field f : c.getDeclaredFields()) {
            boolean isStatic = Modifier.isStatic(f.getModifiers());
            fields += isStatic ? 0 : 1;
            check(!isStatic || Modifier.isFinal(f.getModifiers()), f + " is static and not final");
        }
        check(fields <= 20, c + " has more than twenty fields");
        for (Method m : c.getDeclaredMethods()) {
            check(m.getParameterCount() <= 7, m + " has more than seven parameters");
            boolean isFace = c == SignDots.class && Modifier.isPublic(m.getModifiers());
            for (String name : FACE) {
                check(isFace || !name.startsWith(m.getName() + " "), m + " bears the name of a public method");
            }
        }
    }

    private static void words() throws IOException {
        String source = Files.readString(Path.of("src/main/java/SignDots.java"), StandardCharsets.UTF_8);
        String code = source.replaceAll("(?s)/\\*.*?\\*/", " ").replaceAll("//[^\n]*", " ");
        String[] banned = {"throw", "throws", "try", "catch", "synchronized", "assert", "package", "Random", "Thread",
            "hashCode", "toString", "equals", "protected", "->", "::", "@", "Object", "System\\.(?!arraycopy)"};
        for (String word : banned) {
            String bounds = Character.isLetter(word.charAt(0)) ? "\\b" + word : word;
            Matcher m = Pattern.compile(bounds + (word.matches("\\w+") ? "\\b" : "")).matcher(code);
            check(!m.find(), "the program uses " + word);
        }
        Matcher imports = Pattern.compile("import\\s+([\\w.*]+)").matcher(code);
        while (imports.find()) {
            check(imports.group(1).equals("java.util.Arrays"), "the program imports " + imports.group(1));
        }
    }
}
