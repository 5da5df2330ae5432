import java.io.ByteArrayOutputStream;
import java.io.PrintStream;
import java.net.URL;
import java.net.URLClassLoader;
import java.nio.file.Files;
import java.nio.file.Path;
import java.util.Comparator;
import java.util.List;
import java.util.stream.Stream;
import javax.tools.JavaCompiler;
import javax.tools.ToolProvider;

/** The program in README.md prints what README.md says. */
public final class ReadmeTest {
    private ReadmeTest() {
    }

    public static void main(String[] args) throws Exception {
        JavaCompiler compiler = ToolProvider.getSystemJavaCompiler();
        if (compiler == null) {
            System.out.println("this java has no compiler inside: the program of README.md was not run");
            return;
        }
        String readme = Files.readString(Path.of("README.md"));
        Path folder = Files.createTempDirectory("readme");
        try {
            Path program = Files.writeString(folder.resolve("Season.java"), block(readme, "java"));
            Due.is("compiling the program", 0, compiler.run(null, null, null, "-d", folder.toString(),
                    "src/main/java/IceRun.java", program.toString()));
            String printed = run(folder);
            Due.yes("printed:\n" + printed, printed.equals(block(readme, "text")));
        } finally {
            delete(folder);
        }
        Due.done();
    }

    /** The first block of that sort. */
    private static String block(String text, String sort) {
        int from = text.indexOf("```" + sort + "\n") + sort.length() + 4;
        return text.substring(from, text.indexOf("```", from));
    }

    private static String run(Path folder) throws Exception {
        PrintStream usual = System.out;
        ByteArrayOutputStream printed = new ByteArrayOutputStream();
        try (URLClassLoader loader = new URLClassLoader(new URL[] {folder.toUri().toURL()}, null);
                PrintStream caught = new PrintStream(printed)) {
            System.setOut(caught);
            loader.loadClass("Season").getMethod("main", String[].class).invoke(null, (Object) new String[0]);
        } finally {
            System.setOut(usual);
        }
        return printed.toString().replace(System.lineSeparator(), "\n");
    }

    private static void delete(Path folder) throws Exception {
        List<Path> all;
        try (Stream<Path> walk = Files.walk(folder)) {
            all = walk.sorted(Comparator.reverseOrder()).toList();
        }
        for (Path path : all) {
            Files.delete(path);
        }
    }
}
