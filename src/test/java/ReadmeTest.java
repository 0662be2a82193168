import java.io.ByteArrayOutputStream;
import java.io.IOException;
import java.io.PrintStream;
import java.net.URL;
import java.net.URLClassLoader;
import java.nio.file.Files;
import java.nio.file.Path;
import java.util.ArrayList;
import java.util.Arrays;
import java.util.List;
import java.util.regex.Matcher;
import java.util.regex.Pattern;
import javax.tools.ToolProvider;

/** The example of README.md, compiled and run: what it prints is what its comments say. */
public final class ReadmeTest {
    private static final Pattern EXAMPLE = Pattern.compile("(?s)```java\n(.*?)```");
    private static final Pattern PRINTED = Pattern.compile("System\\.out\\.println\\(.*\\); *// (-?[0-9]+):");

    private static String example() throws IOException {
        Matcher m = EXAMPLE.matcher(Files.readString(Path.of("README.md")));
        if (!m.find()) throw new IllegalStateException("README.md has no example");
        return m.group(1);
    }

    private static List<String> said(String example) {
        List<String> all = new ArrayList<>();
        Matcher m = PRINTED.matcher(example);
        while (m.find()) all.add(m.group(1));
        return all;
    }

    private static List<String> printed(String example, Path work) throws IOException, ReflectiveOperationException {
        Path source = Files.writeString(work.resolve("Mine.java"), example);
        String classes = System.getProperty("java.class.path");
        int code = ToolProvider.getSystemJavaCompiler().run(null, null, null, "-cp", classes, "-d", work.toString(), source.toString());
        if (code != 0) throw new IllegalStateException("the example doesn't compile");
        PrintStream screen = System.out;
        ByteArrayOutputStream bytes = new ByteArrayOutputStream();
        System.setOut(new PrintStream(bytes, true));
        try (URLClassLoader loader = new URLClassLoader(new URL[] {work.toUri().toURL()})) {
            loader.loadClass("Mine").getMethod("main", String[].class).invoke(null, (Object) new String[0]);
        } finally {
            System.setOut(screen);
        }
        return Arrays.asList(bytes.toString().split("\\R"));
    }

    private static void remove(Path work) throws IOException {
        for (String name : new String[] {"Mine.java", "Mine.class"}) Files.deleteIfExists(work.resolve(name));
        Files.deleteIfExists(work);
    }

    public static void main(String[] args) throws IOException, ReflectiveOperationException {
        String example = example();
        Path work = Files.createTempDirectory("readme");
        List<String> got;
        try {
            got = printed(example, work);
        } finally {
            remove(work);
        }
        List<String> want = said(example);
        boolean alike = got.equals(want) && !want.isEmpty();
        System.out.println(alike ? "README.md: all " + want.size() + " lines print what they say" : "README.md: printed " + got + ", said " + want);
        if (!alike) System.exit(1);
    }
}
