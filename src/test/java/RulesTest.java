import java.io.IOException;
import java.lang.reflect.Constructor;
import java.lang.reflect.Field;
import java.lang.reflect.Method;
import java.lang.reflect.Modifier;
import java.nio.file.Files;
import java.nio.file.Path;
import java.util.Arrays;
import java.util.Set;
import java.util.TreeSet;
import java.util.regex.Matcher;
import java.util.regex.Pattern;
import java.util.stream.Collectors;

/** The document's face, and those rules of LANGUAGE.md that can be seen by a look at the class or its text. */
public final class RulesTest {
    private static final String[] FACE = {
        "int shape(int, int, int)", "int sign(int, int, int)", "int sound(int, int)", "int out(int)", "int frame(int, int)",
        "int window(int)", "int told(int, int)", "int sounds(int, int)", "int at(int, int)", "int count(int)",
        "int pulled(int, int, int)", "long smooth(int, int, int)", "long jump(int, int)", "int calm(int, int)", "int off(int, int)",
        "int forget(int)", "int word(int, int)", "int letter(int, int)", "int guess(int)", "int type(int)", "int read()",
        "int drift(int)", "int undo()", "int seed(int)", "int image()", "int restore()",
        "int seen(int, int, int, int)", "int film(int, int, int)", "int sheet(int, int, int)", "int drop(int)",
        "int item(int, int, int, long)", "int copy(int, int, int, int, int)",
    };
    private static final String[] CONSTANTS = {
        "BAD -1", "NOT -2", "FULL -3", "NONE -4", "NULL -11", "CAST -12", "INDEX -13", "SIZE -14",
    };
    /** Words and signs that rules 2, 4, 6 rule out, as regular expressions. */
    private static final String[] RULED_OUT = {
        "\\bimport\\b", "\\bpackage\\b", "\\bthrow\\b", "\\bthrows\\b", "\\btry\\b", "\\bcatch\\b", "\\bfinally\\b",
        "\\bsynchronized\\b", "\\bassert\\b", "->", "::", "\\bequals\\(", "\\bhashCode\\(", "\\btoString\\(", "Exact\\(",
        "\\bgetClass\\b", "\\bvar\\b", "\\bprotected\\b",
    };
    private static final String LIBRARY = "System\\.arraycopy|Math\\.(abs|max|min)|Integer\\.bitCount";
    private static int wrong = 0;

    private static void due(String what, Object got, Object want) {
        if (!got.equals(want)) {
            wrong++;
            System.out.println(what + " is " + got + ", due is " + want);
        }
    }

    private static Set<String> set(String... all) {
        return new TreeSet<>(Arrays.asList(all));
    }

    private static String told(Method m) {
        String kinds = Arrays.stream(m.getParameterTypes()).map(Class::getSimpleName).collect(Collectors.joining(", "));
        return m.getReturnType().getSimpleName() + " " + m.getName() + "(" + kinds + ")";
    }

    private static void face() throws IllegalAccessException {
        Class<?> c = MouthFrames.class;
        due("the class", Modifier.toString(c.getModifiers()), "public final");
        due("its package", c.getPackageName(), "");
        Set<String> methods = new TreeSet<>();
        Set<String> publicNames = new TreeSet<>();
        for (Method m : c.getDeclaredMethods()) {
            if (Modifier.isPrivate(m.getModifiers()) || m.isSynthetic()) continue;
            due("what stands ahead of " + told(m), Modifier.toString(m.getModifiers()), "public");
            methods.add(told(m));
            publicNames.add(m.getName());
        }
        due("methods", methods, set(FACE));
        for (Method m : c.getDeclaredMethods()) {
            if (Modifier.isPrivate(m.getModifiers())) due("a public one named as " + told(m), publicNames.contains(m.getName()), false);
        }
        Set<String> constants = new TreeSet<>();
        for (Field f : c.getDeclaredFields()) {
            if (Modifier.isPrivate(f.getModifiers())) continue;
            due("what stands ahead of " + f.getName(), f.getType() + " " + Modifier.toString(f.getModifiers()), "int public static final");
            constants.add(f.getName() + " " + f.getInt(null));
        }
        due("constants", constants, set(CONSTANTS));
        Constructor<?>[] all = c.getDeclaredConstructors();
        due("constructors", all.length, 1);
        due("the constructor", all[0].toString(), "public MouthFrames()");
    }

    private static void classesInside() {
        Class<?>[] inside = MouthFrames.class.getDeclaredClasses();
        due("no more than twelve classes", inside.length <= 12, true);
        for (Class<?> c : inside) {
            due(c.getName() + ", static", Modifier.isStatic(c.getModifiers()), true);
            due(c.getName() + ", public", Modifier.isPublic(c.getModifiers()), false);
            due(c.getName() + ", some twenty fields", fieldsOf(c) <= 20, true);
            due(c.getName() + ", classes inside", c.getDeclaredClasses().length, 0);
            for (Method m : c.getDeclaredMethods()) due("parameters of " + told(m), m.getParameterCount() <= 7, true);
        }
        due("MouthFrames, some twenty fields", fieldsOf(MouthFrames.class) <= 20, true);
    }

    private static long fieldsOf(Class<?> c) {
        return Arrays.stream(c.getDeclaredFields()).filter(f -> !Modifier.isStatic(f.getModifiers())).count();
    }

    /** Static fields are constants: rule 5. */
    private static void staticFields(Class<?> c) {
        for (Field f : c.getDeclaredFields()) {
            if (Modifier.isStatic(f.getModifiers())) due(c.getName() + "." + f.getName() + ", final", Modifier.isFinal(f.getModifiers()), true);
        }
        for (Class<?> inside : c.getDeclaredClasses()) staticFields(inside);
    }

    private static String textOf(Path source) throws IOException {
        String text = Files.readString(source);
        for (int i = 0; i < text.length(); i++) due("a sign of 1 .. 127 at " + i, text.charAt(i) > 0 && text.charAt(i) < 128, true);
        return text.replaceAll("(?s)/\\*.*?\\*/", "").replaceAll("//[^\n]*", "").replaceAll("\"[^\"\n]*\"", "\"\"");
    }

    private static void words(String text) {
        for (String out : RULED_OUT) due("'" + out + "' in the text", Pattern.compile(out).matcher(text).find(), false);
        Matcher m = Pattern.compile("\\b(System|Math|Integer|Long|Arrays|Character|Thread|Runtime)\\b(\\.\\w+)*").matcher(text);
        while (m.find()) due(m.group() + ", of the library", m.group().matches(LIBRARY), true);
    }

    public static void main(String[] args) throws IOException, IllegalAccessException {
        face();
        classesInside();
        staticFields(MouthFrames.class);
        words(textOf(Path.of(args.length > 0 ? args[0] : "src/main/java/MouthFrames.java")));
        System.out.println(wrong == 0 ? "face and rules: all as due" : wrong + " are not as due");
        if (wrong != 0) System.exit(1);
    }
}
