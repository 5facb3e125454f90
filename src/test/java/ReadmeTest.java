import java.io.ByteArrayOutputStream;
import java.io.File;
import java.io.PrintStream;
import java.lang.reflect.Method;
import java.lang.reflect.Modifier;
import java.net.URL;
import java.net.URLClassLoader;
import java.nio.charset.StandardCharsets;
import java.nio.file.Files;
import java.nio.file.Path;
import java.util.regex.Matcher;
import java.util.regex.Pattern;
import javax.tools.ToolProvider;

/** README.md must say what is so: its program is compiled and run, its lines are read, its lists are whole. */
public final class ReadmeTest {
    private static final Check CHECK = new Check("ReadmeTest");

    public static void main(String[] args) throws Exception {
        String page = Files.readString(Path.of("README.md"), StandardCharsets.UTF_8);
        program(page);
        linesOfAText(page);
        calls(page);
        tests(page);
        CHECK.end();
    }

    private static String block(String page, String language) {
        Matcher found = Pattern.compile("(?s)```" + language + "\n(.*?)```").matcher(page);
        return found.find() ? found.group(1) : "";
    }

    private static void program(String page) throws Exception {
        Path place = Files.createTempDirectory("readme");
        Path source = Files.writeString(place.resolve("Example.java"), block(page, "java"));
        int compiled = ToolProvider.getSystemJavaCompiler().run(null, null, null,
            "-d", place.toString(), "-cp", System.getProperty("java.class.path"), source.toString());
        CHECK.due("the program compiles", compiled, 0);
        String printed = compiled == 0 ? printedBy(place) : "";
        CHECK.due("the program prints\n" + printed, printed.equals(block(page, "text")), true);
        for (File file : place.toFile().listFiles()) {
            file.delete();
        }
        Files.delete(place);
    }

    private static String printedBy(Path place) throws Exception {
        PrintStream before = System.out;
        ByteArrayOutputStream bytes = new ByteArrayOutputStream();
        try (URLClassLoader loader = new URLClassLoader(new URL[] {place.toUri().toURL()})) {
            System.setOut(new PrintStream(bytes, true, StandardCharsets.UTF_8));
            loader.loadClass("Example").getMethod("main", String[].class).invoke(null, (Object) new String[0]);
        } finally {
            System.setOut(before);
        }
        return bytes.toString(StandardCharsets.UTF_8).replace("\r", "");
    }

    /** The lines that the page shows, put together, are a meadow; each sort is among them. */
    private static void linesOfAText(String page) {
        String table = page.substring(page.indexOf("### The text"), page.indexOf("### The calls"));
        Matcher found = Pattern.compile("`((meadow|row|want|moon|gate|noise|heard|walker) [^`]*)`").matcher(table);
        StringBuilder text = new StringBuilder();
        StringBuilder sorts = new StringBuilder();
        while (found.find()) {
            text.append(text.length() > 0 ? ";" : "").append(found.group(1));
            sorts.append(found.group(2)).append(' ');
        }
        CHECK.due("sorts: " + sorts, sorts.toString().equals("meadow row want moon gate noise heard walker "), true);
        MownMaze x = new MownMaze();
        CHECK.due("the lines are read", Check.tell(x, text + ";row mmmm;row mmmm") >= 0, true);
    }

    private static void calls(String page) {
        String table = page.substring(page.indexOf("### The calls"), page.indexOf("## How to run"));
        for (Method method : MownMaze.class.getDeclaredMethods()) {
            if (Modifier.isPublic(method.getModifiers())) {
                Matcher told = Pattern.compile("`" + method.getName() + "\\(([^)]*)\\)`").matcher(table);
                boolean found = told.find();
                CHECK.due(method.getName() + " is told", found, true);
                int arguments = found && !told.group(1).isEmpty() ? told.group(1).split(",").length : 0;
                CHECK.due(method.getName() + ": arguments", arguments, method.getParameterCount());
            }
        }
    }

    private static void tests(String page) {
        String table = page.substring(page.indexOf("| test |"));
        for (String file : new File("src/test/java").list()) {
            if (file.endsWith("Test.java")) {
                String test = file.substring(0, file.length() - ".java".length());
                CHECK.due(test + " is told", Pattern.compile("\\b" + test + "\\b").matcher(table).find(), true);
            }
        }
    }
}
