import java.io.ByteArrayOutputStream;
import java.io.IOException;
import java.io.PrintStream;
import java.lang.reflect.Method;
import java.lang.reflect.Modifier;
import java.net.URL;
import java.net.URLClassLoader;
import java.nio.charset.StandardCharsets;
import java.nio.file.Files;
import java.nio.file.Path;
import java.util.ArrayList;
import java.util.List;
import java.util.regex.Matcher;
import java.util.regex.Pattern;
import javax.tools.JavaCompiler;
import javax.tools.ToolProvider;

/** README.md: its program prints what stands beside its rows, and it names every call of the face. */
public final class ReadmeTest {
    private static final Pattern PROGRAM = Pattern.compile("(?s)```java\n(.*?)```");
    private static final Pattern PRINTED = Pattern.compile("println\\((.*)\\); *// (-?\\w+)");
    private static final Check CHECK = new Check();

    public static void main(String[] args) throws IOException, ReflectiveOperationException {
        String page = Files.readString(Path.of("README.md"), StandardCharsets.UTF_8);
        namesEveryCall(page);
        Matcher program = PROGRAM.matcher(page);
        if (program.find()) {
            printsWhatItSays(program.group(1));
        } else {
            CHECK.due("README.md has a program", false, true);
        }
        CHECK.end();
    }

    private static void namesEveryCall(String page) {
        for (Method method : CourtSix.class.getDeclaredMethods()) {
            if (Modifier.isPublic(method.getModifiers())) {
                CHECK.due("README.md names " + method.getName(), page.contains("`" + method.getName() + "`"), true);
            }
        }
    }

    private static void printsWhatItSays(String program) throws IOException, ReflectiveOperationException {
        List<String> calls = new ArrayList<>();
        List<String> due = new ArrayList<>();
        Matcher row = PRINTED.matcher(program);
        while (row.find()) {
            calls.add(row.group(1));
            due.add(row.group(2));
        }
        String[] printed = outputOf(program).split("\\R");
        CHECK.due("rows that the program of README.md prints", printed.length, due.size());
        for (int k = 0; k < Math.min(printed.length, due.size()); k++) {
            CHECK.same("README.md, row " + k + ", " + calls.get(k), printed[k], due.get(k));
        }
    }

    private static String outputOf(String program) throws IOException, ReflectiveOperationException {
        Path folder = Files.createTempDirectory("readme");
        Path source = folder.resolve("Example.java");
        Files.writeString(source, program);
        JavaCompiler compiler = ToolProvider.getSystemJavaCompiler();
        int refused = compiler.run(null, null, null, "-cp", System.getProperty("java.class.path"),
                "-d", folder.toString(), source.toString());
        CHECK.due("javac refuses the program of README.md", refused, 0);
        PrintStream screen = System.out;
        ByteArrayOutputStream kept = new ByteArrayOutputStream();
        try (URLClassLoader loader = new URLClassLoader(new URL[] {folder.toUri().toURL()})) {
            System.setOut(new PrintStream(kept, true));
            loader.loadClass("Example").getMethod("main", String[].class).invoke(null, (Object) new String[0]);
        } finally {
            System.setOut(screen);
            Files.deleteIfExists(folder.resolve("Example.class"));
            Files.deleteIfExists(source);
            Files.deleteIfExists(folder);
        }
        return kept.toString(StandardCharsets.UTF_8);
    }
}
