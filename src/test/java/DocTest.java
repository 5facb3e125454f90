import java.io.IOException;
import java.nio.charset.StandardCharsets;
import java.nio.file.DirectoryStream;
import java.nio.file.Files;
import java.nio.file.Path;
import java.util.ArrayList;
import java.util.List;
import java.util.regex.Matcher;
import java.util.regex.Pattern;

/** Each word of the document's terms and promises must stand in a sentence that one of the tests is about. */
public final class DocTest {
    private static final Check CHECK = new Check("DocTest");
    private static final String TEXT = "\"(?:[^\"\\\\]|\\\\.)*\"";
    private static final Pattern QUOTE = Pattern.compile("CHECK\\.says\\((" + TEXT + "(?:\\s*\\+\\s*" + TEXT + ")*)\\)");

    public static void main(String[] args) throws IOException {
        String left = told();
        for (String quote : quotes()) {
            left = left.replace(quote, " ~ ");
        }
        CHECK.due("words no test is about: " + left.replaceAll("[^A-Za-z0-9]+", " "), left.matches("[^A-Za-z0-9]*"), true);
        CHECK.end();
    }

    /** The terms and promises without headings, signatures and what only says where a thing stands. */
    private static String told() {
        String document = Check.document();
        String terms = document.substring(document.indexOf("I. THE TEXT of a MEADOW"), document.indexOf("## Not promised"));
        return terms.replaceFirst("I\\. THE TEXT of a MEADOW", "")
            .replaceAll("Ahead of the calls [^-]*---- [a-z ,]*\\.", "")
            .replaceAll("## Promise [0-9]+: [A-Za-z ]*? `[^`]*`:", "")
            .replaceAll("```text|```", "")
            .replaceAll("(?<= )(I|II|III|IV)\\. ", "")
            .replaceAll("The constants: ", "")
            .replaceAll("; TOKENS: ", " ");
    }

    private static List<String> quotes() throws IOException {
        List<String> quotes = new ArrayList<>();
        try (DirectoryStream<Path> files = Files.newDirectoryStream(Path.of("src/test/java"), "*EdgesTest.java")) {
            for (Path file : files) {
                Matcher found = QUOTE.matcher(Files.readString(file, StandardCharsets.UTF_8));
                while (found.find()) {
                    quotes.add(joined(found.group(1)));
                }
            }
        }
        quotes.sort((a, b) -> b.length() - a.length());
        return quotes;
    }

    private static String joined(String source) {
        StringBuilder whole = new StringBuilder();
        Matcher part = Pattern.compile(TEXT).matcher(source);
        while (part.find()) {
            whole.append(part.group(), 1, part.group().length() - 1);
        }
        return whole.toString();
    }
}
