import java.util.regex.Matcher;
import java.util.regex.Pattern;

/** Terms I and promises 1 to 5, sentence by sentence: the tape, tokens, lines, faults. */
public final class TextEdgesTest {
    private static final Check CHECK = new Check("TextEdgesTest");
    private static final String HEAD = "meadow wide 2 high 2 dusk 9 pays 1 shuts 4";
    private static final String ROWS = HEAD + ";row mm;row mm";
    private static final String[] SORTS = {"meadow", "row", "want", "moon", "gate", "noise", "heard", "walker"};

    public static void main(String[] args) {
        tapeRoom();
        feedOrder();
        blanks();
        words();
        otherWords();
        wholes();
        signs();
        lines();
        sizes();
        aheadOfAll();
        rows();
        pictures();
        rowLetters();
        gates();
        noise();
        heard();
        walkers();
        names();
        firstFromTheLeft();
        leastNumber();
        form();
        toldAgain();
        bounds();
        many();
        lacks();
        otherRows();
        noSecondFault();
        newObject();
        firstBytes();
        emptyThen();
        freshMeadow();
        rowsThatEndElsewhere();
        refusedByTwo();
        refusedByFour();
        latestFault();
        placeOfFault();
        CHECK.end();
    }

    private static void good(String text, int mown) {
        MownMaze x = new MownMaze();
        CHECK.fine(x, text, Check.tell(x, text), mown);
        CHECK.due("fault() of " + text, x.fault(), 0);
        CHECK.due("where() of " + text, x.where(), -1);
    }

    private static void fault(String text, int number, int place) {
        MownMaze x = new MownMaze();
        CHECK.refused(x, text, Check.tell(x, text), 4);
        CHECK.due("fault() of " + text, x.fault(), number);
        CHECK.due("where() of " + text, x.where(), place);
    }

    /** A fault behind a text that goes well; its place is counted from that text's end. */
    private static void behind(String text, String more, int number, int place) {
        fault(text + more, number, text.length() + place);
    }

    private static String walker(String name) {
        return ";walker " + name + " left at 0,0 faces north leaves 0";
    }

    // ---- the tape

    private static void tapeRoom() {
        CHECK.says("THE TAPE has 900 bytes");
        String last = ";noise 1,1";
        String text = ROWS + " ".repeat(900 - ROWS.length() - last.length()) + last;
        MownMaze x = new MownMaze();
        CHECK.due("the last byte has room", Check.feed(x, text), 900);
        CHECK.says("NONE, and none comes, if there would be more than 900.");
        CHECK.due("feed() to a full tape", x.feed(0, 0, 0, 0, 0), -1);
        CHECK.due("size(12) of a full tape", x.size(12), 900);
        CHECK.fine(x, "meadow(900)", x.meadow(900), 4);
        CHECK.due("the last byte is read", x.size(7), 3);
        Check.feed(x, text);
        CHECK.due("feed() to a full tape", x.feed(0, 0, 0, 0, 0), -1);
        CHECK.refused(x, "meadow(899)", x.meadow(899), 4);
        CHECK.due("where() at the end of 899", x.where(), 899);
        CHECK.due("a tape that was emptied has room again", x.feed(0, 0, 0, 0, 0), 20);
    }

    private static void feedOrder() {
        CHECK.says("Twenty bytes come behind THE TAPE, of each number the highest first: how many it has");
        MownMaze x = new MownMaze();
        CHECK.due("feed()", x.feed(0x6d656164, 0x6f772077, 0x69646520, 0x32206869, 0x67682032), 20);
        CHECK.due("feed()", x.feed(0x20647573, 0x6b203920, 0x70617973, 0x20312073, 0x68757473), 40);
        CHECK.due("feed()", x.feed(0x20343b72, 0x6f77206d, 0x6d3b726f, 0x7720736d, 0x20202020), 60);
        CHECK.fine(x, "meadow(60)", x.meadow(60), 3);
        CHECK.due("mown(0, 1)", x.mown(0, 1), 0);
        int[][] bytes = {{0xff202020, 0}, {0x20ff2020, 1}, {0x2020ff20, 2}, {0x202020ff, 3}, {0x20202080, 3}, {0x7fffffff, 0}};
        for (int[] told : bytes) {
            for (int i = 0; i < 5; i++) {
                int[] five = {0x20202020, 0x20202020, 0x20202020, 0x20202020, 0x20202020};
                five[i] = told[0];
                CHECK.due("feed()", x.feed(five[0], five[1], five[2], five[3], five[4]), 20);
                CHECK.refused(x, "meadow(20)", x.meadow(20), 4);
                CHECK.due("where() of the byte that is no blank", x.where(), 4 * i + told[1]);
            }
        }
    }

    // ---- tokens

    private static void blanks() {
        CHECK.says("blanks, 32, part TOKENS and mean nothing else");
        good("   " + ROWS.replace(" ", "     ").replace(";", "  ;  ") + "    ", 4);
        good("meadow wide2high2dusk9pays1shuts4;row mm;row mm;gate0,0;noise1,1;heard60from1,1", 4);
        behind(HEAD, ";row mm mm", 1, 8);
        behind(HEAD, ";row m m", 7, 5);
        behind(HEAD, ";r ow mm", 1, 1);
        fault("meadow wide 2 high 2 dusk 1 0", 1, 28);
        for (int b = 0; b < 256; b++) {
            String text = ROWS + " " + (char) b;
            if (b == ' ') {
                good(text, 4);
            } else {
                fault(text, 1, text.length() - (b == ';' ? 0 : 1));
            }
        }
    }

    private static void words() {
        CHECK.says("WORDS of 1 to 8 small letters that stand together");
        for (int letters = 1; letters <= 8; letters++) {
            good(ROWS + walker("abcdefghij".substring(0, letters)), 4);
        }
        good(ROWS + walker("z"), 4);
        good(ROWS + walker("zzzzzzzz"), 4);
        behind(ROWS, walker("abcdefghi"), 1, 8);
        behind(ROWS, walker("abcdefghij"), 1, 8);
        behind(ROWS, walker("aB"), 1, 9);
        behind(ROWS, walker("B"), 1, 8);
        behind(ROWS, walker("a1"), 1, 9);
        behind(ROWS, walker("a`"), 1, 9);
        behind(ROWS, walker("a{"), 1, 9);
        behind(ROWS, ";walker a leftat 0,0", 1, 10);
    }

    /** A word that is a letter off, longer or shorter is another one. */
    private static void otherWords() {
        CHECK.says("LINE {; LINE}. LINE, one of:");
        String text = ROWS + ";want mm;moon ss;gate 1,1;noise 1,1;heard 1 from 0,0;walker qa left at 0,0 faces north leaves 0"
            + ";walker qb right at 0,0 faces east leaves 0;walker qc once at 0,0 faces south leaves 0"
            + ";walker qd cow at 0,0 faces west leaves 0;walker qe lot at 0,0 faces west leaves 0";
        good(text, 4);
        Matcher words = Pattern.compile("[a-z]+").matcher(text);
        while (words.find()) {
            String word = words.group();
            if (!word.matches("mm|ss|q.")) {
                String ahead = text.substring(0, words.start());
                String rest = text.substring(words.end());
                String shorter = word.substring(0, word.length() - 1);
                for (String other : new String[] {"z" + word.substring(1), shorter + "z", word + "z", shorter, word.toUpperCase()}) {
                    fault(ahead + other + rest, 1, words.start());
                }
            }
        }
    }

    private static void wholes() {
        CHECK.says("WHOLES of 1 to 3 digits that do");
        good(ROWS.replace("dusk 9", "dusk 1"), 4);
        good(ROWS.replace("dusk 9", "dusk 01"), 4);
        good(ROWS.replace("dusk 9", "dusk 001"), 4);
        good(ROWS.replace("dusk 9", "dusk 200"), 4);
        fault(ROWS.replace("dusk 9", "dusk 0001"), 1, 26);
        fault(ROWS.replace("dusk 9", "dusk 00001"), 1, 26);
        fault(ROWS.replace("dusk 9", "dusk /"), 1, 26);
        fault(ROWS.replace("dusk 9", "dusk :"), 1, 26);
        fault(ROWS.replace("dusk 9", "dusk -1"), 1, 26);
    }

    private static void signs() {
        CHECK.says("single ones of ; ,");
        good(ROWS + " ; gate 0 , 1 ", 4);
        behind(ROWS, ";gate 0,,1", 1, 8);
        behind(ROWS, ";;gate 0,1", 1, 1);
        behind(ROWS, ";gate 0;1", 1, 7);
        behind(ROWS, ";gate 0.1", 1, 7);
        behind(ROWS, ",gate 0,1", 1, 0);
        behind(ROWS, ":gate 0,1", 1, 0);
    }

    private static void lines() {
        CHECK.says("LINE {; LINE}. LINE, one of:");
        fault("", 1, 0);
        fault(";", 1, 0);
        behind(ROWS, ";", 1, 1);
        behind(ROWS, ";;", 1, 1);
        behind(ROWS, " gate 0,0", 1, 1);
        behind(ROWS, ";wide", 1, 1);
        behind(ROWS, ";rows mm", 1, 1);
        behind(ROWS, ";ro", 1, 1);
        behind(ROWS, ";1", 1, 1);
    }

    // ---- lines

    private static String square(int wide, int high) {
        return ("meadow wide " + wide + " high " + high + " dusk 9 pays 1 shuts 4")
            + (";row " + "m".repeat(wide)).repeat(high);
    }

    private static String head(int dusk, int pays, int shuts) {
        return "meadow wide 2 high 2 dusk " + dusk + " pays " + pays + " shuts " + shuts + ";row mm;row mm";
    }

    private static void sizes() {
        CHECK.says("meadow wide WHOLE high WHOLE dusk WHOLE pays WHOLE shuts WHOLE (2 .. 8, 2 .. 6, 1 .. 200, 0 .. 99, 1 .. 4)");
        for (int wide = 2; wide <= 8; wide++) {
            for (int high = 2; high <= 6; high++) {
                MownMaze x = Check.maze(square(wide, high));
                CHECK.due("size(8) of " + wide + " by " + high, x.size(8), wide * high);
                CHECK.due("size(0)", x.size(0), wide);
                CHECK.due("size(1)", x.size(1), high);
                CHECK.fine(x, "mown() of the last cell", x.mown(wide - 1, high - 1), 1);
                CHECK.refused(x, "mown() beyond it", x.mown(wide, high - 1), 1);
                CHECK.refused(x, "mown() below it", x.mown(wide - 1, high), 1);
            }
        }
        for (int wrong : new int[] {0, 1, 9, 10, 999}) {
            fault("meadow wide " + wrong + " high 2 dusk 9 pays 1 shuts 4", 4, 12);
        }
        for (int wrong : new int[] {0, 1, 7, 8, 999}) {
            fault("meadow wide 2 high " + wrong + " dusk 9 pays 1 shuts 4", 4, 19);
        }
        int[][] sound = {{1, 0, 1}, {200, 99, 4}, {1, 99, 1}, {200, 0, 4}};
        for (int[] s : sound) {
            MownMaze x = Check.maze(head(s[0], s[1], s[2]));
            CHECK.due("size(2)", x.size(2), s[0]);
            CHECK.due("size(3)", x.size(3), s[1]);
        }
        fault(head(0, 0, 1), 4, 26);
        fault(head(201, 0, 1), 4, 26);
        fault(head(999, 0, 1), 4, 26);
        fault(head(1, 100, 1), 4, 33);
        fault(head(1, 999, 1), 4, 33);
        fault(head(1, 0, 0), 4, 41);
        fault(head(1, 0, 5), 4, 41);
        fault(head(1, 0, 999), 4, 41);
        fault("meadow high 2 wide 2 dusk 9 pays 1 shuts 4", 1, 7);
    }

    private static void aheadOfAll() {
        CHECK.says("ahead of all others");
        String[] ahead = {"row mm", "want mm", "moon mm", "gate 0,0", "noise 0,0", "heard 0 from 0,0",
            "walker a left at 0,0 faces north leaves 0"};
        for (String line : ahead) {
            good(HEAD + ";" + line + (line.startsWith("row") ? ";row mm" : ";row mm;row mm"), 4);
            fault(line + ";" + ROWS, 6, 0);
            fault("  " + line + ";" + ROWS, 6, 2);
            fault(line, 6, 0);
            behind(ROWS + ";", HEAD, 3, 0);
        }
    }

    private static void rows() {
        CHECK.says("row ROW (m mown, s stands; as many LINES as high, from above)");
        String[] rows = {"msssssss", "smssssss", "ssmsssss", "sssmssss", "ssssmsss", "sssssmss"};
        String head = "meadow wide 8 high 6 dusk 1 pays 0 shuts 1";
        String text = head;
        for (int y = 0; y < 6; y++) {
            fault(text, 6, text.length());
            text += ";row " + rows[y] + ";want aaaaaaaa";
        }
        MownMaze x = Check.maze(text);
        for (int y = 0; y < 6; y++) {
            for (int a = 0; a < 8; a++) {
                CHECK.due("mown(" + a + ", " + y + ")", x.mown(a, y), a == y ? 1 : 0);
            }
        }
        behind(text, ";row " + rows[0], 5, 1);
        good(HEAD + ";row ss;row ss", 0);
    }

    private static void pictures() {
        CHECK.says("or want ROW, or moon ROW (likewise, a any, too; no more LINES of each than high; what isn't told is any).");
        String told = "";
        for (int lines = 0; lines <= 2; lines++) {
            MownMaze x = Check.maze(ROWS + told + told.replace("want", "moon"));
            CHECK.due("unlike(false) of " + lines + " lines", x.unlike(false), lines);
            CHECK.due("unlike(true) of " + lines + " lines", x.unlike(true), lines);
            told += ";want as";
        }
        behind(ROWS + ";want aa;want aa", ";want aa", 5, 1);
        behind(ROWS + ";moon aa;moon aa", ";moon aa", 5, 1);
        good(ROWS + ";want aa;want aa;moon aa;moon aa", 4);
        MownMaze y = Check.maze(HEAD + ";row mm;row ss;want ms;want sm;moon sa");
        CHECK.due("unlike(false): told from above", y.unlike(false), 2);
        CHECK.due("firstUnlike(false)", y.firstUnlike(false), 1);
        CHECK.due("unlike(true)", y.unlike(true), 1);
        CHECK.due("firstUnlike(true)", y.firstUnlike(true), 0);
    }

    private static void rowLetters() {
        CHECK.says("ROW: a WORD of as many letters as wide");
        for (int wide = 2; wide <= 8; wide++) {
            String head = "meadow wide " + wide + " high 2 dusk 9 pays 1 shuts 4";
            for (String sort : new String[] {"row", "want", "moon"}) {
                String line = ";" + sort + " ";
                behind(head + line, "m".repeat(wide - 1), 7, 0);
                behind(head + line, "s".repeat(wide + 1), wide == 8 ? 1 : 7, 0);
                behind(head + line, "12", 1, 0);
                behind(head + line, ";", 1, 0);
                behind(head, ";" + sort, 1, sort.length() + 1);
            }
        }
    }

    private static void gates() {
        CHECK.says("gate WHOLE, WHOLE (x, y; unlike; up to 4)");
        String rows = square(8, 6);
        MownMaze x = Check.maze(rows + ";gate 0,0;gate 7,0;gate 0,5;gate 7,5");
        CHECK.due("size(4)", x.size(4), 4);
        CHECK.due("size(4) without one", Check.maze(rows).size(4), 0);
        behind(rows, ";gate 8,0", 4, 6);
        behind(rows, ";gate 0,6", 4, 8);
        behind(rows, ";gate 6,6", 4, 8);
        behind(rows, ";gate 999,0", 4, 6);
        behind(rows, ";gate 1,0;gate 0,1;gate 1,0", 3, 26);
        behind(rows, ";gate 1,1;gate 1,1", 3, 17);
        behind(rows + ";gate 0,0;gate 7,0;gate 0,5;gate 7,5", ";gate 3,3", 5, 1);
        good(HEAD + ";row ss;row ss;gate 0,0", 0);
    }

    private static void noise() {
        CHECK.says("or noise WHOLE, WHOLE");
        String rows = square(8, 6);
        CHECK.due("size(7)", Check.maze(rows + ";noise 0,0").size(7), 0);
        CHECK.due("size(7)", Check.maze(rows + ";noise 7,5").size(7), 47);
        CHECK.due("size(7) at a gate", Check.maze(rows + ";gate 1,1;noise 1,1").size(7), 9);
        CHECK.due("size(7) without one", Check.maze(rows).size(7), -2);
        behind(rows, ";noise 8,0", 4, 7);
        behind(rows, ";noise 7,6", 4, 9);
        behind(rows + ";noise 0,0", ";noise 1,1", 3, 1);
        behind(rows + ";noise 0,0", ";noise", 3, 1);
    }

    private static void heard() {
        CHECK.says("or heard WHOLE from WHOLE, WHOLE (0 .. 60; up to 5)");
        String rows = square(8, 6);
        String five = ";heard 0 from 0,0;heard 60 from 7,5;heard 1 from 0,0;heard 1 from 0,0;heard 59 from 7,0";
        CHECK.due("size(6)", Check.maze(rows + five).size(6), 5);
        CHECK.due("size(6) without one", Check.maze(rows).size(6), 0);
        behind(rows + five, ";heard 0 from 0,0", 5, 1);
        behind(rows, ";heard 61 from 0,0", 4, 7);
        behind(rows, ";heard 999 from 0,0", 4, 7);
        behind(rows, ";heard 60 from 8,0", 4, 15);
        behind(rows, ";heard 60 from 7,6", 4, 17);
        behind(rows, ";heard from 7,5", 1, 7);
        behind(rows, ";heard 1 7,5", 1, 9);
    }

    private static void walkers() {
        CHECK.says("walker NAME KIND at WHOLE, WHOLE faces SIDE leaves WHOLE (KIND: left, right, once, cow, or lot; "
            + "SIDE: north, east, south, or west; 0 .. 99; up to 5)");
        String rows = square(8, 6);
        for (String kind : new String[] {"left", "right", "once", "cow", "lot"}) {
            for (String side : new String[] {"north", "east", "south", "west"}) {
                String line = ";walker a " + kind + " at 7,5 faces " + side + " leaves ";
                CHECK.due("size(5) of" + line, Check.maze(rows + line + "0").size(5), 1);
                CHECK.due("size(5) of" + line, Check.maze(rows + line + "99").size(5), 1);
                behind(rows + line, "100", 4, 0);
                behind(rows + line, "999", 4, 0);
            }
        }
        String five = walker("a") + walker("b") + walker("c") + walker("d") + walker("e");
        CHECK.due("size(5) of five in one cell", Check.maze(rows + five).size(5), 5);
        CHECK.due("size(5) without one", Check.maze(rows).size(5), 0);
        behind(rows + five, walker("f"), 5, 1);
        behind(rows, ";walker a left at 8,0", 4, 18);
        behind(rows, ";walker a left at 0,6", 4, 20);
        behind(rows, ";walker a north at 0,0", 1, 10);
        behind(rows, ";walker a left at 0,0 faces lot leaves 0", 1, 28);
        behind(rows, ";walker left at 0,0 faces north leaves 0", 1, 13);
        good(HEAD + ";row ss;row ss" + walker("a"), 0);
    }

    private static void names() {
        CHECK.says("NAMES are WORDS but meadow, row, want, moon, gate, noise, heard, walker; each told once.");
        for (String sort : SORTS) {
            behind(ROWS, walker(sort), 1, 8);
            good(ROWS + walker(sort.length() < 8 ? sort + "s" : sort), 4);
            good(ROWS + walker(sort.substring(1)), 4);
        }
        String[] others = {"wide", "high", "dusk", "pays", "shuts", "from", "at", "faces", "leaves", "left", "right",
            "once", "cow", "lot", "north", "east", "south", "west", "m", "s", "mm"};
        for (String name : others) {
            good(ROWS + walker(name), 4);
            behind(ROWS + walker(name), walker(name), 3, 8);
        }
        good(ROWS + walker("a") + walker("aa") + walker("aaa") + walker("ab") + walker("ba"), 4);
        behind(ROWS + walker("a") + walker("b") + walker("c") + walker("d"), walker("a"), 3, 8);
    }

    // ---- faults

    private static void firstFromTheLeft() {
        CHECK.says("FAULTS, the first that is met from the left");
        fault("meadow wide 9 high 9 ?", 4, 12);
        fault("? meadow wide 9", 1, 0);
        behind(HEAD, ";gate 2,2", 4, 6);
        behind(HEAD, ";row mmm;?", 7, 5);
        behind(HEAD, ";row mm?mm", 1, 7);
        behind(ROWS, ";row ?", 5, 1);
        behind(ROWS + walker("a"), ";walker a ?", 3, 8);
        behind(ROWS, ";walker ? a", 1, 8);
        fault("row ?", 6, 0);
        fault("? row", 1, 0);
    }

    private static void leastNumber() {
        CHECK.says("of one place the least number");
        String wide = "meadow wide 8 high 2 dusk 9 pays 1 shuts 4";
        behind(wide, ";row mmmmmmmmm", 1, 5);
        behind(wide, ";gate 0008,0", 1, 6);
        behind(wide, ";", 1, 1);
        behind(wide, ";row", 1, 4);
        behind(wide, "", 6, 0);
        behind(ROWS + ";noise 0,0", ";noise 0,0", 3, 1);
        behind(ROWS, ";meadow", 3, 1);
        fault("row mm", 6, 0);
    }

    private static void form() {
        CHECK.says("1 FORM: the first byte that begins no TOKEN, or TOKEN with which no MEADOW goes on (the end: its place).");
        String walk = ROWS + ";walker a left at 0,0 faces north leaves ";
        String[] parts = {"meadow ", "wide ", "2 ", "high ", "2 ", "dusk ", "9 ", "pays ", "1 ", "shuts ", "4 ", "; ",
            "row ", "mm ", "; ", "row ", "mm ", "; ", "gate ", "0 ", ", ", "1 ", "; ", "noise ", "1 ", ", ", "0 ", "; ",
            "heard ", "3 ", "from ", "0 ", ", ", "0 ", "; ", "walker ", "ann ", "left ", "at ", "0 ", ", ", "0 ",
            "faces ", "north ", "leaves ", "9 "};
        String text = "";
        for (int i = 0; i < parts.length; i++) {
            boolean ends = i == 11 || i == 14;
            boolean sound = i == 17 || i == 22 || i == 27 || i == 34;
            if (sound) {
                good(text, 4);
            } else {
                fault(text, ends ? 6 : 1, text.length());
            }
            fault(text + "?", 1, text.length());
            fault(text + "\u00ff", 1, text.length());
            fault(text + "zz9".substring(parts[i].matches("[a-z]+ ") ? 2 : 0), 1, text.length());
            text += parts[i];
        }
        good(text, 4);
        fault(walk, 1, walk.length());
        fault(walk + " ".repeat(5), 1, walk.length() + 5);
    }

    private static void toldAgain() {
        CHECK.says("3 a NAME told again, at it; a gate, at its second WHOLE; a second meadow, noise: at that WORD.");
        behind(ROWS + walker("ann") + walker("bob"), ";walker   ann ", 3, 10);
        behind(ROWS + walker("ann") + walker("bob"), ";walker bob", 3, 8);
        behind(ROWS + ";gate 0,1", ";gate 0, 1", 3, 9);
        behind(ROWS + ";gate 0,1;gate 1,1", ";gate 00,001", 3, 9);
        behind(ROWS, "; " + HEAD, 3, 2);
        fault(HEAD + ";" + HEAD, 3, HEAD.length() + 1);
        behind(ROWS + ";noise 0,0", ";  noise 1,0", 3, 3);
    }

    private static void bounds() {
        CHECK.says("4 a WHOLE out of bounds; at it.");
        fault("meadow wide 001 high", 4, 12);
        fault("meadow wide    9", 4, 15);
        behind(ROWS, ";gate 2 , 0", 4, 6);
        behind(ROWS, ";gate 1 , 2", 4, 10);
        behind(ROWS, ";gate 1 , 002", 4, 10);
        behind(ROWS + ";gate 0,1", ";gate 2,0", 4, 6);
    }

    private static void many() {
        CHECK.says("5 MANY: a LINE more of its sort than there is room for, at its first WORD.");
        behind(ROWS, ";   row mm", 5, 4);
        behind(ROWS + ";want ms;want ms", ";want", 5, 1);
        behind(ROWS + ";moon ms;moon ms", ";moon ?", 5, 1);
        behind(ROWS + ";gate 0,0;gate 0,1;gate 1,0;gate 1,1", ";gate 1,1", 5, 1);
        behind(ROWS + ";heard 1 from 0,0".repeat(5), ";heard 61", 5, 1);
        behind(ROWS + walker("a") + walker("b") + walker("c") + walker("d") + walker("e"), ";walker a", 5, 1);
        good(ROWS + ";want ms;want ms;moon ms;moon ms;gate 0,0;gate 0,1;gate 1,0;gate 1,1;noise 0,0"
            + ";heard 1 from 0,0".repeat(5) + walker("a") + walker("b") + walker("c") + walker("d") + walker("e"), 4);
    }

    private static void lacks() {
        CHECK.says("6 LACKS: any LINE ahead of the meadow; at its WORD; at the end: a row.");
        for (String sort : SORTS) {
            if (!sort.equals("meadow")) {
                fault("  " + sort, 6, 2);
                fault("  " + sort + " ? ;" + ROWS, 6, 2);
            }
        }
        fault(HEAD, 6, HEAD.length());
        fault(HEAD + "   ", 6, HEAD.length() + 3);
        fault(HEAD + ";row mm", 6, HEAD.length() + 7);
        fault(HEAD + ";row mm;want mm;moon mm;gate 0,0", 6, HEAD.length() + 32);
        fault(square(8, 6).substring(0, square(8, 6).length() - 13), 6, square(8, 6).length() - 13);
    }

    private static void otherRows() {
        CHECK.says("7 a ROW of other letters, or of more or fewer than wide; at it.");
        behind(HEAD, ";row ma", 7, 5);
        behind(HEAD, ";row am", 7, 5);
        behind(HEAD, ";row mn", 7, 5);
        behind(HEAD, ";row  xs", 7, 6);
        behind(HEAD, ";row m", 7, 5);
        behind(HEAD, ";row mmm", 7, 5);
        behind(HEAD, ";row mmmmmmmm", 7, 5);
        for (String sort : new String[] {"want", "moon"}) {
            behind(HEAD, ";" + sort + " mb", 7, 6);
            behind(HEAD, ";" + sort + " zs", 7, 6);
            behind(HEAD, ";" + sort + " a", 7, 6);
            behind(HEAD, ";" + sort + " aaa", 7, 6);
            good(ROWS + ";" + sort + " am", 4);
        }
        for (String sort : SORTS) {
            behind(HEAD, ";row " + sort, 7, 5);
        }
    }

    private static void noSecondFault() {
        CHECK.says("(2 there is none.)");
        String text = ROWS + ";want am;gate 0,1;noise 1,0;heard 3 from 0,0" + walker("ann");
        for (int n = 0; n < text.length(); n++) {
            MownMaze x = new MownMaze();
            Check.feed(x, text.substring(0, n) + "x" + text.substring(n + 1));
            x.meadow(text.length());
            CHECK.due("fault() is never 2", x.fault() == 2, false);
        }
    }

    // ---- promises 1 to 5

    private static void newObject() {
        CHECK.says("No MEADOW.");
        MownMaze x = new MownMaze();
        for (int what = 0; what <= 12; what++) {
            CHECK.due("size(" + what + ")", x.size(what), 0);
        }
        CHECK.due("trouble()", x.trouble(), 0);
        CHECK.due("fault()", x.fault(), 0);
        CHECK.due("where()", x.where(), -1);
        CHECK.refused(x, "parts()", x.parts(), 1);
        CHECK.refused(x, "thin()", x.thin(), 1);
        MownMaze other = Check.maze(ROWS);
        CHECK.due("an object has nothing of another one", x.size(8) == 0 && other.size(8) == 4, true);
    }

    private static void firstBytes() {
        CHECK.says("The first n bytes of THE TAPE");
        MownMaze x = new MownMaze();
        String two = ROWS.replace("dusk 9", "dusk 199");
        Check.feed(x, two + ";noise 1,1 ; ? ; row");
        CHECK.fine(x, "meadow() of its first bytes", x.meadow(two.length()), 4);
        CHECK.due("what comes behind is not read", x.size(7), -2);
        Check.feed(x, two);
        CHECK.refused(x, "meadow() that ends in a ROW", x.meadow(two.length() - 1), 4);
        CHECK.due("fault() of that", x.fault(), 7);
        Check.feed(x, two);
        CHECK.refused(x, "meadow() that ends in a WHOLE", x.meadow(28), 4);
        CHECK.due("where() of that", x.where(), 28);
        CHECK.refused(x, "meadow(0) of an empty tape", x.meadow(0), 4);
        CHECK.due("fault() of nothing", x.fault(), 1);
        CHECK.due("where() of nothing", x.where(), 0);
        Check.feed(x, two);
        CHECK.refused(x, "meadow(0) of a tape", x.meadow(0), 4);
        CHECK.due("where() of nothing", x.where(), 0);
    }

    private static void emptyThen() {
        CHECK.says("(it is empty then)");
        MownMaze x = new MownMaze();
        Check.feed(x, ROWS + " ".repeat(40));
        CHECK.fine(x, "meadow()", x.meadow(ROWS.length()), 4);
        CHECK.due("size(12)", x.size(12), 0);
        CHECK.refused(x, "meadow(1)", x.meadow(1), 2);
        CHECK.due("feed()", x.feed(1, 2, 3, 4, 5), 20);
        CHECK.refused(x, "meadow(20)", x.meadow(20), 4);
        CHECK.due("size(12) behind a fault", x.size(12), 0);
        x.feed(1, 2, 3, 4, 5);
        CHECK.refused(x, "meadow(0)", x.meadow(0), 4);
        CHECK.due("size(12) behind no byte", x.size(12), 0);
    }

    private static void freshMeadow() {
        CHECK.says("are the MEADOW from now on (SEED 0; nothing to undo, no MARKS): how many cells are MOWN.");
        String rich = square(8, 6) + (";want " + "s".repeat(8)).repeat(6) + (";moon " + "s".repeat(8)).repeat(6)
            + ";gate 0,0;gate 1,2;gate 1,1;gate 3,3;noise 1,1" + ";heard 1 from 0,0".repeat(5)
            + walker("a") + walker("b") + walker("c") + walker("d") + walker("e");
        MownMaze x = new MownMaze();
        // Twice each, so that nothing is left of the latest meadow nor of the one ahead of it.
        for (int i = 0; i < 6; i++) {
            boolean plain = i % 4 > 1;
            if (plain) {
                CHECK.fine(x, "meadow()", Check.tell(x, HEAD.replace("wide 2", "wide 3") + ";row mms;row ssm"), 3);
                nothingOfRich(x);
            } else {
                CHECK.fine(x, "meadow()", Check.tell(x, rich), 48);
                int[] sizes = {8, 6, 9, 1, 4, 5, 5, 9, 48, 0, 0, 0, 0};
                for (int what = 0; what < sizes.length; what++) {
                    CHECK.due("size(" + what + ")", x.size(what), sizes[what]);
                }
                CHECK.due("unlike(false)", x.unlike(false), 48);
                CHECK.due("out(0)", x.out(0), 0);
                CHECK.due("steps(0, 47)", x.steps(0, 47), 12);
            }
            x.seed(65536);
            x.stand(0, 0);
            x.mark();
        }
        CHECK.due("none is mown", Check.tell(x, HEAD + ";row ss;row ss"), 0);
        CHECK.due("all 48 are", Check.tell(x, square(8, 6)), 48);
        CHECK.fine(x, "names of an earlier meadow are free", Check.tell(x, ROWS + walker("b") + walker("a")), 4);
        CHECK.fine(x, "names of an earlier meadow are free", Check.tell(x, ROWS + walker("a") + walker("b")), 4);
    }

    private static void rowsThatEndElsewhere() {
        for (int wide = 2; wide <= 7; wide++) {
            MownMaze x = Check.maze(square(8, 6));
            Check.tell(x, square(8, 6));
            for (int i = 0; i < 2; i++) {
                Check.tell(x, square(wide, 6));
                CHECK.due("rings() of " + wide + " by 6", x.rings(), 5 * (wide - 1));
                for (int cell = 0; cell < wide * 6; cell++) {
                    int across = (cell % wide > 0 ? 1 : 0) + (cell % wide < wide - 1 ? 1 : 0);
                    int down = (cell >= wide ? 1 : 0) + (cell < wide * 5 ? 1 : 0);
                    CHECK.due("beside() of " + cell, x.beside(cell % wide, cell / wide), across + down);
                }
            }
        }
    }

    private static void nothingOfRich(MownMaze x) {
        int[] sizes = {3, 2, 9, 1, 0, 0, 0, -2, 3, 0, 0, 0, 0};
        for (int what = 0; what < sizes.length; what++) {
            CHECK.due("size(" + what + ")", x.size(what), sizes[what]);
        }
        CHECK.due("unlike(false)", x.unlike(false), 0);
        CHECK.due("unlike(true)", x.unlike(true), 0);
        CHECK.due("places()", x.places(), 3);
        CHECK.due("gatesSeen()", x.gatesSeen(), 0);
        CHECK.due("crowd(0)", x.crowd(0), 0);
        CHECK.refused(x, "out(0)", x.out(0), 1);
        CHECK.refused(x, "undo()", x.undo(), 6);
        CHECK.refused(x, "back(0)", x.back(0), 1);
        CHECK.due("parts()", x.parts(), 2);
        CHECK.due("steps(0, 1)", x.steps(0, 1), 1);
        CHECK.due("steps(2, 3)", x.steps(2, 3), -2);
        CHECK.due("beside(2, 0)", x.beside(2, 0), 2);
        CHECK.due("rings()", x.rings(), 0);
        CHECK.due("week() has no gate left", x.week(), 1);
        CHECK.fine(x, "undo()", x.undo());
        CHECK.due("best() may change any cell", x.best(), 0);
    }

    private static void refusedByTwo() {
        CHECK.says("NONE: 2 (THE TAPE stays); 4 (the MEADOW stays).");
        MownMaze x = new MownMaze();
        CHECK.refused(x, "meadow(1) of an empty tape", x.meadow(1), 2);
        CHECK.refused(x, "meadow(-1) of an empty tape", x.meadow(-1), 2);
        Check.feed(x, ROWS);
        for (int n : new int[] {-1, 61, 900, 901, Integer.MIN_VALUE, Integer.MAX_VALUE}) {
            CHECK.refused(x, "meadow(" + n + ") of 60", x.meadow(n), 2);
            CHECK.due("the tape stays", x.size(12), 60);
        }
        CHECK.fine(x, "meadow(60)", x.meadow(60), 4);
    }

    private static void refusedByFour() {
        MownMaze x = Check.maze(ROWS + ";want ss;moon ms;gate 1,1;noise 1,0;heard 1 from 0,0" + walker("a"));
        x.seed(7);
        x.stand(0, 0);
        x.mark();
        String[] faulty = {"", "?", "meadow wide 8 high 6 dusk 200 pays 99 shuts 1",
            square(8, 6) + ";want mmmmmmmm;moon mmmmmmmm;gate 7,5;gate 6,5;noise 7,5;heard 9 from 7,5"
                + ";walker b cow at 7,5 faces west leaves 99" + ";row"};
        for (String text : faulty) {
            CHECK.refused(x, "meadow() of a faulty text", Check.tell(x, text), 4);
            int[] sizes = {2, 2, 9, 1, 1, 1, 1, 1, 3, 7, 1, 1, 0};
            for (int what = 0; what < sizes.length; what++) {
                CHECK.due("size(" + what + ") stays", x.size(what), sizes[what]);
            }
            CHECK.due("unlike(false) stays", x.unlike(false), 1);
            CHECK.due("out(0) stays", x.out(0), 2);
        }
        CHECK.fine(x, "undo()", x.undo());
        CHECK.fine(x, "back(0)", x.back(0));
        CHECK.due("size(8)", x.size(8), 3);
    }

    private static void latestFault() {
        CHECK.says("The FAULT of the latest meadow() not refused by 2; 0 without one.");
        MownMaze x = new MownMaze();
        CHECK.due("fault() ahead of any", x.fault(), 0);
        x.meadow(1);
        CHECK.due("fault() behind one refused by 2", x.fault(), 0);
        Check.tell(x, "row");
        CHECK.due("fault()", x.fault(), 6);
        x.meadow(-1);
        x.parts();
        x.undo();
        CHECK.due("fault() behind other calls", x.fault(), 6);
        Check.tell(x, HEAD + ";row mmm");
        CHECK.due("fault() of the latest", x.fault(), 7);
        Check.tell(x, ROWS);
        CHECK.due("fault() behind a good one", x.fault(), 0);
        x.meadow(-1);
        CHECK.due("fault() behind one refused by 2", x.fault(), 0);
    }

    private static void placeOfFault() {
        CHECK.says("Its place, if the latest call that may be refused was by 4; NONE else.");
        MownMaze x = new MownMaze();
        CHECK.due("where() ahead of any", x.where(), -1);
        Check.tell(x, "   row");
        CHECK.due("where()", x.where(), 3);
        x.feed(0, 0, 0, 0, 0);
        x.fault();
        x.where();
        x.trouble();
        x.size(0);
        x.size(-1);
        CHECK.due("where() behind calls that can't be refused", x.where(), 3);
        x.parts();
        CHECK.due("where() behind one refused by 1", x.where(), -1);
        x.meadow(20);
        CHECK.due("where() again", x.where(), 0);
        x.meadow(-1);
        CHECK.due("where() behind one refused by 2", x.where(), -1);
        x = Check.maze(ROWS);
        CHECK.due("where() behind a good one", x.where(), -1);
        Check.tell(x, "?");
        CHECK.due("where() of the first byte", x.where(), 0);
        x.parts();
        CHECK.due("where() behind one that wasn't refused", x.where(), -1);
    }
}
