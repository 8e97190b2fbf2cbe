import java.io.ByteArrayOutputStream;
import java.io.File;
import java.io.PrintStream;
import java.net.URL;
import java.net.URLClassLoader;
import java.nio.file.Files;
import java.nio.file.Path;
import java.util.Set;
import java.util.TreeSet;
import java.util.regex.Matcher;
import java.util.regex.Pattern;
import javax.tools.ToolProvider;

/** README.md: its example prints what is told there, and the tests that it names are those that are there. */
public final class ReadmeTests {
    private static int wrong = 0;

    public static void main(String[] args) throws Exception {
        String readme = Files.readString(Path.of("README.md"));
        same("the example prints", printed(block(readme, "java")), block(readme, "text"));
        same("the tests that are there", testsThere().toString(), testsNamed(readme).toString());
        System.out.println(wrong == 0 ? "as README.md tells" : wrong + " not as README.md tells");
        if (wrong != 0) {
            System.exit(1);
        }
    }

    private static void same(String told, String got, String want) {
        if (!got.equals(want)) {
            wrong++;
            System.out.println(told + ":\n" + got + "\nbut README.md has:\n" + want);
        }
    }

    /** The first block of a kind. */
    private static String block(String readme, String kind) {
        Matcher found = Pattern.compile("```" + kind + "\n(.*?)```", Pattern.DOTALL).matcher(readme);
        return found.find() ? found.group(1) : "";
    }

    private static String printed(String program) throws Exception {
        Path directory = Files.createTempDirectory("readme");
        Path source = directory.resolve("Example.java");
        Path made = directory.resolve("Example.class");
        PrintStream before = System.out;
        ByteArrayOutputStream lines = new ByteArrayOutputStream();
        try (URLClassLoader loader = new URLClassLoader(new URL[] {directory.toUri().toURL()})) {
            Files.writeString(source, program);
            int answer = ToolProvider.getSystemJavaCompiler().run(null, null, null, "-cp",
                System.getProperty("java.class.path"), "-d", directory.toString(), source.toString());
            if (answer != 0) {
                return "it does not compile";
            }
            System.setOut(new PrintStream(lines, true));
            loader.loadClass("Example").getMethod("main", String[].class).invoke(null, (Object) new String[0]);
        } finally {
            System.setOut(before);
            Files.deleteIfExists(source);
            Files.deleteIfExists(made);
            Files.deleteIfExists(directory);
        }
        return lines.toString();
    }

    private static Set<String> testsNamed(String readme) {
        Set<String> names = new TreeSet<>();
        Matcher found = Pattern.compile("`(\\w+Tests)\\b").matcher(readme);
        for (int i = 0; i < readme.length() && found.find(); i++) {
            names.add(found.group(1));
        }
        return names;
    }

    private static Set<String> testsThere() {
        Set<String> names = new TreeSet<>();
        String[] files = new File("src/test/java").list();
        for (String file : files == null ? new String[0] : files) {
            if (file.endsWith("Tests.java")) {
                names.add(file.substring(0, file.length() - ".java".length()));
            }
        }
        return names;
    }
}
