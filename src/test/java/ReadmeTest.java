import java.io.ByteArrayOutputStream;
import java.io.File;
import java.io.IOException;
import java.io.PrintStream;
import java.lang.reflect.Field;
import java.lang.reflect.Method;
import java.lang.reflect.Modifier;
import java.net.URL;
import java.net.URLClassLoader;
import java.nio.charset.StandardCharsets;
import java.nio.file.Files;
import java.nio.file.Path;
import java.util.Comparator;
import java.util.List;
import java.util.regex.Matcher;
import java.util.regex.Pattern;
import java.util.stream.Stream;
import javax.tools.JavaCompiler;
import javax.tools.ToolProvider;

/** That README.md holds: its example is compiled and run, and prints what stands there; each call and constant is told. */
public final class ReadmeTest {
    private static final Check CHECK = new Check("ReadmeTest");
    private static final Path PAGE = Path.of("README.md");
    private static final Path TESTS = Path.of("src/test/java");

    public static void main(String[] args) throws IOException, ReflectiveOperationException {
        String page = Files.readString(PAGE);
        faceIsTold(page);
        testsAreTold(page);
        JavaCompiler compiler = ToolProvider.getSystemJavaCompiler();
        if (compiler == null) {
            System.out.println("ReadmeTest: this machine's java has no javac with it");
        } else {
            Path folder = Files.createTempDirectory("readme");
            try {
                example(page, compiler, folder);
            } finally {
                remove(folder);
            }
        }
        CHECK.end();
    }

    private static void faceIsTold(String page) throws IllegalAccessException {
        for (Method method : EvenWheel.class.getDeclaredMethods()) {
            if (Modifier.isPublic(method.getModifiers())) {
                CHECK.that("the call " + method.getName(), page.contains("`" + method.getName() + "("));
            }
        }
        for (Field field : EvenWheel.class.getFields()) {
            Pattern row = Pattern.compile("`EvenWheel\\." + field.getName() + "`[ |(]+" + field.getInt(null) + "\\b");
            CHECK.that("the constant " + field.getName(), row.matcher(page).find());
        }
    }

    private static void testsAreTold(String page) throws IOException {
        try (Stream<Path> files = Files.list(TESTS)) {
            files.map(file -> file.getFileName().toString()).filter(name -> name.endsWith("Test.java")).forEach(name -> {
                String test = name.replace(".java", "");
                CHECK.that("the test " + test, Pattern.compile("\\b" + test + "\\b").matcher(page).find());
            });
        }
    }

    private static void example(String page, JavaCompiler compiler, Path folder)
        throws IOException, ReflectiveOperationException {
        String code = block(page, "java");
        Path file = folder.resolve("Example.java");
        Files.writeString(file, code);
        int wrong = compiler.run(null, null, null, "-proc:none", "-cp", System.getProperty("java.class.path"), "-d",
            folder.toString(), file.toString());
        CHECK.that("the example is compiled", wrong == 0);
        if (wrong == 0) {
            String due = block(page, "text");
            String printed = run(folder);
            CHECK.that("the example prints\n" + printed + "and due is\n" + due, printed.equals(due));
            CHECK.that("the example has lines", due.lines().count() > 5);
        }
    }

    private static String block(String page, String kind) {
        Matcher found = Pattern.compile("(?s)```" + kind + "\n(.*?)```").matcher(page);
        return found.find() ? found.group(1) : "";
    }

    private static String run(Path folder) throws IOException, ReflectiveOperationException {
        PrintStream before = System.out;
        ByteArrayOutputStream printed = new ByteArrayOutputStream();
        try (URLClassLoader loader = new URLClassLoader(new URL[] {folder.toUri().toURL()})) {
            Method main = loader.loadClass("Example").getMethod("main", String[].class);
            System.setOut(new PrintStream(printed, true, StandardCharsets.UTF_8));
            main.invoke(null, (Object) new String[0]);
        } finally {
            System.setOut(before);
        }
        return printed.toString(StandardCharsets.UTF_8).replace(System.lineSeparator(), "\n");
    }

    private static void remove(Path folder) throws IOException {
        try (Stream<Path> all = Files.walk(folder)) {
            List<File> files = all.sorted(Comparator.reverseOrder()).map(Path::toFile).toList();
            for (File file : files) {
                CHECK.that("removed: " + file, file.delete());
            }
        }
    }
}
