/** Terms II (cells) and promises 6 to 13, sentence by sentence. */
public final class CellEdgesTest {
    private static final Check CHECK = new Check("CellEdgesTest");
    private static final String SIZES = "dusk 9 pays 1 shuts 4";
    private static final int LEAST = Integer.MIN_VALUE;
    private static final int MOST = Integer.MAX_VALUE;

    public static void main(String[] args) {
        numbers();
        bySides();
        partsOfCells();
        ringsOfCells();
        deadEnds();
        shortestWays();
        partingCells();
        mownOrNot();
        besideIt();
        noMeadow();
        stepsOfTwo();
        mostSteps();
        partsWhatIs();
        CHECK.end();
    }

    private static MownMaze cells(String... rows) {
        return Check.maze(Check.rows(SIZES, rows));
    }

    private static MownMaze full() {
        return cells("mmmmmmmm", "mmmmmmmm", "mmmmmmmm", "mmmmmmmm", "mmmmmmmm", "mmmmmmmm");
    }

    /** Coordinates beyond a meadow of 3 by 2, some of which would still make a number of a cell. */
    private static int[][] beyond() {
        return new int[][] {{3, 0}, {-1, 1}, {0, 2}, {0, -1}, {3, 1}, {2, 2}, {-1, -1}, {-3, 1}, {6, -1}, {5, 0},
            {LEAST, 0}, {0, LEAST}, {MOST, 0}, {0, MOST}, {LEAST, LEAST}, {MOST, MOST}};
    }

    private static void numbers() {
        CHECK.says("CELLS have numbers: wide times y and x.");
        for (int wide = 2; wide <= 8; wide++) {
            for (int y = 0; y < 2; y++) {
                for (int x = 0; x < wide; x++) {
                    String row = "s".repeat(wide);
                    String lone = "s".repeat(x) + "m" + "s".repeat(wide - 1 - x);
                    MownMaze maze = cells(y == 0 ? lone : row, y == 1 ? lone : row);
                    for (int cell = 0; cell < 2 * wide; cell++) {
                        CHECK.due("steps() of the lone cell " + x + ", " + y, maze.steps(cell, cell), cell == wide * y + x ? 0 : -2);
                    }
                }
            }
        }
    }

    private static void bySides() {
        CHECK.says("BESIDE: by sides.");
        MownMaze x = cells("msm", "sss", "msm");
        CHECK.fine(x, "beside(1, 1): corners are not beside", x.beside(1, 1), 0);
        MownMaze rowsEnd = cells("ssm", "mss", "ssm");
        CHECK.fine(rowsEnd, "beside(2, 0): a row ends", rowsEnd.beside(2, 0), 0);
        CHECK.fine(rowsEnd, "beside(0, 1): a row begins", rowsEnd.beside(0, 1), 0);
        CHECK.fine(rowsEnd, "beside(2, 1)", rowsEnd.beside(2, 1), 2);
        CHECK.fine(rowsEnd, "beside(2, 2): nothing is below, and nothing above comes round", rowsEnd.beside(2, 2), 0);
        MownMaze topAndBottom = cells("smm", "sss", "smm");
        CHECK.fine(topAndBottom, "beside(1, 0)", topAndBottom.beside(1, 0), 1);
        CHECK.fine(topAndBottom, "beside(1, 1)", topAndBottom.beside(1, 1), 2);
        MownMaze all = full();
        for (int y = 0; y < 6; y++) {
            for (int a = 0; a < 8; a++) {
                int sides = 4 - (a == 0 || a == 7 ? 1 : 0) - (y == 0 || y == 5 ? 1 : 0);
                CHECK.due("beside(" + a + ", " + y + ") of all", all.beside(a, y), sides);
            }
        }
    }

    private static void partsOfCells() {
        CHECK.says("MOWN cells that hang together by sides are a PART.");
        CHECK.due("none", cells("ss", "ss").parts(), 0);
        CHECK.due("one", cells("ms", "ss").parts(), 1);
        CHECK.due("corners", cells("ms", "sm").parts(), 2);
        CHECK.due("rows that end", cells("ssm", "mss").parts(), 2);
        CHECK.due("a bend", cells("mmm", "ssm").parts(), 1);
        CHECK.due("top and bottom", cells("mm", "ss", "mm").parts(), 2);
        CHECK.due("all", full().parts(), 1);
        CHECK.due("as many as can be", cells("msmsmsms", "smsmsmsm", "msmsmsms", "smsmsmsm", "msmsmsms", "smsmsmsm").parts(), 24);
        CHECK.due("a long one", cells("mmmmmmmm", "sssssssm", "mmmmmmmm", "msssssss", "mmmmmmmm", "sssssssm").parts(), 1);
    }

    private static void ringsOfCells() {
        CHECK.says("RINGS: pairs of MOWN cells BESIDE each other, less MOWN cells, and PARTS.");
        CHECK.due("none", cells("ss", "ss").rings(), 0);
        CHECK.due("one cell", cells("ms", "ss").rings(), 0);
        CHECK.due("three of four", cells("mm", "ms").rings(), 0);
        CHECK.due("four of four", cells("mm", "mm").rings(), 1);
        CHECK.due("two parts", cells("mmsmm", "mmsmm").rings(), 2);
        CHECK.due("an eight", cells("mmmmm", "msmsm", "mmmmm").rings(), 2);
        CHECK.due("rows that end", cells("smm", "mms").rings(), 0);
        CHECK.due("lone cells", cells("msm", "sms").rings(), 0);
        CHECK.due("all", full().rings(), 35);
    }

    private static void deadEnds() {
        CHECK.says("A DEAD END: a MOWN cell with just one MOWN one BESIDE it.");
        CHECK.due("none", cells("ss", "ss").ends(), 0);
        CHECK.due("a lone cell has none beside it", cells("ms", "ss").ends(), 0);
        CHECK.due("both of two", cells("mm", "ss").ends(), 2);
        CHECK.due("a row", cells("mmm", "sss").ends(), 2);
        CHECK.due("a ring", cells("mm", "mm").ends(), 0);
        CHECK.due("a cross", cells("sms", "mmm", "sms").ends(), 4);
        CHECK.due("a cell that stands between", cells("sms", "sss", "sms").ends(), 0);
        CHECK.due("corners do not count", cells("mms", "ssm").ends(), 2);
    }

    private static void shortestWays() {
        CHECK.says("STEPS of two MOWN cells: of the shortest way over MOWN ones.");
        MownMaze x = cells("mmmmm", "msssm", "mmmmm");
        CHECK.due("the same cell", x.steps(5, 5), 0);
        CHECK.due("beside", x.steps(0, 1), 1);
        CHECK.due("not over what stands", x.steps(2, 12), 6);
        CHECK.due("the shorter of two", x.steps(1, 11), 4);
        CHECK.due("two as long", x.steps(2, 14), 4);
        CHECK.due("across all", full().steps(0, 47), 12);
        CHECK.due("across all, back", full().steps(40, 7), 12);
    }

    private static void partingCells() {
        CHECK.says("A cell PARTS what is: MOWN, and were it to stand there would be more PARTS.");
        MownMaze x = cells("mmmsm", "sssss", "mmsmm");
        CHECK.due("in the middle", x.splits(1, 0), 1);
        CHECK.due("at an end", x.splits(0, 0), 0);
        CHECK.due("a lone one: there would be fewer", x.splits(4, 0), 0);
        CHECK.due("one of two: there would be as many", x.splits(0, 2), 0);
        CHECK.due("what stands", x.splits(2, 2), 0);
        CHECK.due("a cross", cells("sms", "mmm", "sms").splits(1, 1), 1);
        CHECK.due("a ring", cells("mmm", "msm", "mmm").splits(1, 0), 0);
        CHECK.due("two rings, at the joint", cells("mmsss", "mmmmm", "sssmm").splits(2, 1), 1);
        CHECK.due("two rings, beside it", cells("mmsss", "mmmmm", "sssmm").splits(1, 1), 1);
        CHECK.due("two rings, away from it", cells("mmsss", "mmmmm", "sssmm").splits(0, 1), 0);
    }

    private static void mownOrNot() {
        CHECK.says("Whether a cell is MOWN: 1, 0. NONE: 1.");
        MownMaze x = cells("mss", "ssm");
        CHECK.fine(x, "mown(0, 0)", x.mown(0, 0), 1);
        CHECK.fine(x, "mown(2, 0)", x.mown(2, 0), 0);
        CHECK.fine(x, "mown(0, 1)", x.mown(0, 1), 0);
        CHECK.fine(x, "mown(2, 1)", x.mown(2, 1), 1);
        for (int[] at : beyond()) {
            CHECK.refused(x, "mown(" + at[0] + ", " + at[1] + ")", x.mown(at[0], at[1]), 1);
        }
        MownMaze none = new MownMaze();
        CHECK.refused(none, "mown(0, 0) without a meadow", none.mown(0, 0), 1);
    }

    private static void besideIt() {
        CHECK.says("How many MOWN ones are BESIDE it. NONE: 1.");
        MownMaze x = cells("mms", "smm");
        CHECK.fine(x, "beside(0, 0)", x.beside(0, 0), 1);
        CHECK.fine(x, "beside(2, 0) of what stands", x.beside(2, 0), 2);
        CHECK.fine(x, "beside(0, 1) of what stands", x.beside(0, 1), 2);
        CHECK.fine(x, "beside(1, 1)", x.beside(1, 1), 2);
        MownMaze alone = cells("ms", "ss");
        CHECK.fine(alone, "beside(0, 0): itself aside", alone.beside(0, 0), 0);
        CHECK.fine(alone, "beside(1, 1)", alone.beside(1, 1), 0);
        for (int[] at : beyond()) {
            CHECK.refused(x, "beside(" + at[0] + ", " + at[1] + ")", x.beside(at[0], at[1]), 1);
        }
        MownMaze none = new MownMaze();
        CHECK.refused(none, "beside(0, 0) without a meadow", none.beside(0, 0), 1);
    }

    private static void noMeadow() {
        MownMaze x = new MownMaze();
        MownMaze empty = cells("ss", "ss");
        CHECK.says("PARTS. NONE: 1 (no MEADOW).");
        CHECK.refused(x, "parts()", x.parts(), 1);
        CHECK.fine(empty, "parts()", empty.parts(), 0);
        CHECK.says("RINGS. NONE: 1 (no MEADOW).");
        CHECK.refused(x, "rings()", x.rings(), 1);
        CHECK.fine(empty, "rings()", empty.rings(), 0);
        CHECK.says("DEAD ENDS. NONE: 1 (no MEADOW).");
        CHECK.refused(x, "ends()", x.ends(), 1);
        CHECK.fine(empty, "ends()", empty.ends(), 0);
        Check.tell(x, "meadow wide 2 high 2 ?");
        CHECK.refused(x, "parts() behind a faulty text", x.parts(), 1);
        CHECK.refused(x, "rings() behind a faulty text", x.rings(), 1);
        CHECK.refused(x, "ends() behind a faulty text", x.ends(), 1);
        CHECK.refused(x, "longest() behind a faulty text", x.longest(), 1);
        CHECK.refused(x, "mown(0, 0) behind a faulty text", x.mown(0, 0), 1);
    }

    private static void stepsOfTwo() {
        CHECK.says("STEPS of two cells, by numbers; -2 if there is no way, or one stands. NONE: 1.");
        MownMaze x = cells("mms", "ssm");
        CHECK.fine(x, "steps(0, 1)", x.steps(0, 1), 1);
        CHECK.fine(x, "steps(5, 5)", x.steps(5, 5), 0);
        CHECK.fine(x, "steps(0, 5): no way", x.steps(0, 5), -2);
        CHECK.fine(x, "steps(1, 5): a corner", x.steps(1, 5), -2);
        CHECK.fine(x, "steps(0, 2): one stands", x.steps(0, 2), -2);
        CHECK.fine(x, "steps(3, 0): the other stands", x.steps(3, 0), -2);
        CHECK.fine(x, "steps(2, 3): both stand", x.steps(2, 3), -2);
        CHECK.fine(x, "steps(3, 3): it stands", x.steps(3, 3), -2);
        for (int wrong : new int[] {-1, 6, 7, 48, 64, -64, LEAST, MOST}) {
            CHECK.refused(x, "steps(0, " + wrong + ")", x.steps(0, wrong), 1);
            CHECK.refused(x, "steps(" + wrong + ", 0)", x.steps(wrong, 0), 1);
            CHECK.refused(x, "steps() of two such", x.steps(wrong, wrong), 1);
            CHECK.refused(x, "steps() of one that stands", x.steps(2, wrong), 1);
        }
        MownMaze none = new MownMaze();
        CHECK.refused(none, "steps(0, 0) without a meadow", none.steps(0, 0), 1);
        MownMaze all = full();
        CHECK.fine(all, "steps(47, 0)", all.steps(47, 0), 12);
        CHECK.refused(all, "steps(47, 48)", all.steps(47, 48), 1);
    }

    private static void mostSteps() {
        CHECK.says("The most STEPS of any two that have a way; -2 if none is MOWN. NONE: 1 (no MEADOW).");
        MownMaze x = cells("ss", "ss");
        CHECK.fine(x, "longest() of none", x.longest(), -2);
        x.mow(1, 1);
        CHECK.fine(x, "longest() of one", x.longest(), 0);
        x.mow(0, 0);
        CHECK.fine(x, "longest() of two without a way", x.longest(), 0);
        x.mow(0, 1);
        CHECK.fine(x, "longest() of three", x.longest(), 2);
        x.mow(1, 0);
        CHECK.fine(x, "longest() of a ring", x.longest(), 2);
        MownMaze first = cells("ms", "ss");
        CHECK.fine(first, "longest() of the first cell alone", first.longest(), 0);
        MownMaze snake = cells("mmmmmmmm", "sssssssm", "mmmmmmmm", "msssssss", "mmmmmmmm", "sssssssm");
        CHECK.fine(snake, "longest() of a snake", snake.longest(), 26);
        MownMaze two = cells("mmmmm", "sssss", "mmsss");
        CHECK.fine(two, "longest() of the longer part", two.longest(), 4);
        MownMaze none = new MownMaze();
        CHECK.refused(none, "longest() without a meadow", none.longest(), 1);
    }

    private static void partsWhatIs() {
        CHECK.says("Whether a cell PARTS what is: 1, 0. NONE: 1.");
        MownMaze x = cells("mmm", "sss");
        CHECK.fine(x, "splits(1, 0)", x.splits(1, 0), 1);
        CHECK.fine(x, "splits(2, 0)", x.splits(2, 0), 0);
        CHECK.fine(x, "splits(1, 1)", x.splits(1, 1), 0);
        CHECK.due("nothing is changed", x.size(8) == 3 && x.size(10) == 0, true);
        for (int[] at : beyond()) {
            CHECK.refused(x, "splits(" + at[0] + ", " + at[1] + ")", x.splits(at[0], at[1]), 1);
        }
        MownMaze none = new MownMaze();
        CHECK.refused(none, "splits(0, 0) without a meadow", none.splits(0, 0), 1);
    }
}
