import java.io.IOException;
import java.nio.charset.StandardCharsets;
import java.nio.file.Files;
import java.nio.file.Path;
import java.util.Arrays;

/** What the tests share: texts to the tape, and answers held against those that are due. */
final class Check {
    private static final Path DOCUMENT = Path.of("../shared/DOC.md");

    private final String name;
    private String sentence = "";
    private int asked;
    private int wrong;

    Check(String name) {
        this.name = name;
    }

    void due(String call, long got, long want) {
        asked++;
        if (got != want) {
            wrong++;
            String shown = call.length() > 300 ? call.substring(0, 300) + ".." : call;
            System.out.println(name + ": " + shown + " answered " + got + ", due is " + want);
            System.out.print(sentence.isEmpty() ? "" : "    the document says: " + sentence + "\n");
        }
    }

    /** What the document says, word for word, of the answers that come next. */
    void says(String words) {
        sentence = words;
        due("the document has: " + words, document().contains(words), true);
    }

    /** The document as one line. */
    static String document() {
        try {
            return Files.readString(DOCUMENT, StandardCharsets.UTF_8).replaceAll("\\s+", " ");
        } catch (IOException missing) {
            throw new IllegalStateException("there is no " + DOCUMENT);
        }
    }

    void due(String call, boolean got, boolean want) {
        due(call, got ? 1 : 0, want ? 1 : 0);
    }

    /** The call that was just made must have been refused by that number. */
    void refused(MownMaze x, String call, int got, int number) {
        due(call, got, MownMaze.NONE);
        due("trouble() behind " + call, x.trouble(), number);
    }

    void refused(MownMaze x, String call, boolean got, int number) {
        due(call, got, false);
        due("trouble() behind " + call, x.trouble(), number);
    }

    /** The call that was just made must have answered, and not have been refused. */
    void fine(MownMaze x, String call, int got, int want) {
        due(call, got, want);
        due("trouble() behind " + call, x.trouble(), 0);
    }

    void fine(MownMaze x, String call, boolean got) {
        due(call, got, true);
        due("trouble() behind " + call, x.trouble(), 0);
    }

    void end() {
        System.out.println(name + ": " + asked + " answers, " + wrong + " not as due");
        if (wrong != 0) {
            System.exit(1);
        }
    }

    /** Feeds a text, with blanks behind it up to the next twenty bytes; the last feed's answer. */
    static int feed(MownMaze x, String text) {
        byte[] told = text.getBytes(StandardCharsets.ISO_8859_1);
        byte[] bytes = Arrays.copyOf(told, (told.length + 19) / 20 * 20);
        Arrays.fill(bytes, told.length, bytes.length, (byte) ' ');
        int answer = 0;
        for (int i = 0; i < bytes.length; i += 20) {
            answer = x.feed(number(bytes, i), number(bytes, i + 4), number(bytes, i + 8),
                number(bytes, i + 12), number(bytes, i + 16));
        }
        return answer;
    }

    static int tell(MownMaze x, String text) {
        feed(x, text);
        return x.meadow(text.length());
    }

    /** A new object with that meadow. */
    static MownMaze maze(String text) {
        MownMaze x = new MownMaze();
        if (tell(x, text) < 0) {
            throw new IllegalStateException("fault " + x.fault() + " at " + x.where() + " in " + text);
        }
        return x;
    }

    /** A text of a meadow with those rows; what stands between high and the rows is told. */
    static String rows(String sizes, String... rows) {
        StringBuilder text = new StringBuilder("meadow wide " + rows[0].length() + " high " + rows.length + " " + sizes);
        for (String row : rows) {
            text.append(";row ").append(row);
        }
        return text.toString();
    }

    private static int number(byte[] bytes, int from) {
        int value = 0;
        for (int i = from; i < from + 4; i++) {
            value = value << 8 | bytes[i] & 255;
        }
        return value;
    }
}
