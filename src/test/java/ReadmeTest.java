import java.io.ByteArrayOutputStream;
import java.io.IOException;
import java.io.PrintStream;
import java.lang.reflect.Method;
import java.lang.reflect.Modifier;
import java.net.URL;
import java.net.URLClassLoader;
import java.nio.charset.StandardCharsets;
import java.nio.file.Files;
import java.nio.file.Path;
import java.util.Comparator;
import java.util.List;
import java.util.stream.Stream;
import javax.tools.ToolProvider;

/** README.md: its example compiles and prints what stands behind it; each call and each test is named. */
public final class ReadmeTest {
    public static void main(String[] args) throws IOException, ReflectiveOperationException {
        String readme = Files.readString(Path.of("README.md"));
        Path work = Files.createTempDirectory("readme");
        try {
            Checks.due("the example's lines", printed(work, between(readme, "```java\n")).equals(between(readme, "```text\n")), true);
        } finally {
            try (Stream<Path> all = Files.walk(work)) {
                for (Path path : all.sorted(Comparator.reverseOrder()).toList()) Files.delete(path);
            }
        }
        for (Method m : PictureBlock.class.getDeclaredMethods()) {
            if (Modifier.isPublic(m.getModifiers())) Checks.due("named: " + m.getName(), readme.contains("`" + m.getName() + "`"), true);
        }
        try (Stream<Path> tests = Files.list(Path.of("src/test/java"))) {
            for (Path test : tests.toList()) {
                String name = test.getFileName().toString().replace(".java", "");
                Checks.due("named: " + name, readme.contains("`" + name + "`"), true);
            }
        }
        Checks.finish("ReadmeTest");
    }

    private static String between(String readme, String fence) {
        int from = readme.indexOf(fence) + fence.length();
        return readme.substring(from, readme.indexOf("```", from));
    }

    private static String printed(Path work, String example) throws IOException, ReflectiveOperationException {
        Path source = work.resolve("Example.java");
        Files.writeString(source, example);
        List<String> options = List.of("-d", work.toString(), "src/main/java/PictureBlock.java", source.toString());
        Checks.due("javac", ToolProvider.getSystemJavaCompiler().run(null, null, null, options.toArray(new String[0])), 0);
        PrintStream out = System.out;
        ByteArrayOutputStream caught = new ByteArrayOutputStream();
        try (URLClassLoader loader = new URLClassLoader(new URL[] {work.toUri().toURL()}, null)) {
            System.setOut(new PrintStream(caught, true, StandardCharsets.UTF_8));
            loader.loadClass("Example").getMethod("main", String[].class).invoke(null, (Object) new String[0]);
        } finally {
            System.setOut(out);
        }
        return caught.toString(StandardCharsets.UTF_8).replace("\r", "");
    }
}
