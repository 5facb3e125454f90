/** Terms III (acts) and promises 39 to 46, sentence by sentence. */
public final class ActEdgesTest {
    private static final Check CHECK = new Check("ActEdgesTest");
    private static final String SQUARE = Check.rows("dusk 9 pays 1 shuts 2", "mm", "mm");
    private static final int[][] BEYOND = {{2, 0}, {-1, 1}, {0, 2}, {0, -1}, {2, 1}, {1, 2},
        {Integer.MIN_VALUE, 0}, {0, Integer.MIN_VALUE}, {Integer.MAX_VALUE, 0}, {0, Integer.MAX_VALUE}};

    public static void main(String[] args) {
        whichCellsThin();
        drawsOfThin();
        whatIsAnAct();
        cellsAndSeed();
        twentyAreKept();
        threeMarks();
        mowing();
        standing();
        weeks();
        thinRefused();
        seeds();
        nothingToUndo();
        markAnswers();
        goingBack();
        CHECK.end();
    }

    private static int draw(int seed) {
        return (int) ((75L * seed + 74) % 65537);
    }

    /** By each draw, thin() must choose of these cells, by numbers. */
    private static void thins(String text, int... cells) {
        for (int seed : new int[] {0, 1, 2, 3, 4, 5, 6, 7, 8, 9, 872, 873, 874, 65535, 65536}) {
            MownMaze x = Check.maze(text);
            x.seed(seed);
            int before = x.size(8);
            if (cells.length == 0) {
                CHECK.refused(x, "thin() by " + seed + " of " + text, x.thin(), 6);
                CHECK.due("size(8) stays", x.size(8), before);
                CHECK.due("size(9) stays", x.size(9), seed);
                CHECK.due("size(10) stays", x.size(10), 0);
            } else {
                int cell = cells[draw(seed) % cells.length];
                CHECK.fine(x, "thin() by " + seed + " of " + text, x.thin(), cell);
                CHECK.due("it stands", x.mown(cell % x.size(0), cell / x.size(0)), 0);
                CHECK.due("it alone", x.size(8), before - 1);
                CHECK.due("size(9)", x.size(9), draw(seed));
                CHECK.due("size(10)", x.size(10), 1);
            }
        }
    }

    private static void whichCellsThin() {
        CHECK.says("THIN: of MOWN cells, no gate, no walker's, with two or more MOWN ones BESIDE, that don't PART what is, by numbers, "
            + "a DRAW (of the MEADOW's SEED) mod how many: that one stands.");
        String sizes = "dusk 9 pays 1 shuts 4";
        String walker = ";walker a cow at 1,1 faces east leaves 0";
        thins(SQUARE, 0, 1, 2, 3);
        thins(SQUARE + ";gate 1,0", 0, 2, 3);
        thins(SQUARE + walker, 0, 1, 2);
        thins(SQUARE + ";gate 1,0;gate 0,0" + walker, 2);
        thins(SQUARE + ";gate 1,0;gate 0,0;gate 0,1" + walker);
        thins(SQUARE + ";gate 1,0;gate 0,0;gate 0,1;gate 1,1");
        thins(SQUARE + ";noise 0,0;heard 1 from 0,0", 0, 1, 2, 3);
        thins(Check.rows(sizes, "ss", "ss"));
        thins(Check.rows(sizes, "ms", "sm"));
        thins(Check.rows(sizes, "mm", "ms"));
        thins(Check.rows(sizes, "mmmm", "ssss"));
        thins(Check.rows(sizes, "mmmm", "mmss"), 0, 4, 5);
        thins(Check.rows(sizes, "mmmmm", "mmsmm"), 0, 4, 5, 6, 8, 9);
        thins(Check.rows(sizes, "mmm", "mmm"), 0, 1, 2, 3, 4, 5);
        thins(Check.rows(sizes, "ssssssss", "ssssssss", "ssssssss", "ssssssss", "ssssssmm", "ssssssmm"), 38, 39, 46, 47);
    }

    private static void drawsOfThin() {
        MownMaze x = Check.maze(Check.rows("dusk 9 pays 1 shuts 4", "mmm", "mmm", "mmm"));
        x.seed(9);
        int seed = 9;
        for (int i = 0; i < 4; i++) {
            seed = draw(seed);
            x.thin();
            CHECK.due("size(9): a draw each time", x.size(9), seed);
        }
        MownMaze other = Check.maze(Check.rows("dusk 9 pays 1 shuts 4", "mmm", "mmm", "mmm") + ";walker a lot at 0,0 faces east leaves 0");
        other.seed(9);
        other.at(0, 9);
        CHECK.due("size(9): walkers draw for themselves", other.size(9), 9);
    }

    private static void whatIsAnAct() {
        CHECK.says("ACTS: MOW a cell, let it STAND, a WEEK, THIN.");
        MownMaze x = Check.maze(SQUARE + ";gate 0,0;gate 1,0;gate 0,1;gate 1,1");
        x.stand(0, 0);
        CHECK.due("size(10) behind stand()", x.size(10), 1);
        x.mow(0, 0);
        CHECK.due("size(10) behind mow()", x.size(10), 2);
        CHECK.fine(x, "week() that shuts nothing", x.week(), 0);
        CHECK.due("size(10) behind week()", x.size(10), 3);
        CHECK.refused(x, "thin() of none", x.thin(), 6);
        x.mow(0, 0);
        x.stand(5, 5);
        x.seed(3);
        x.mark();
        x.best();
        x.shut(0, 0);
        CHECK.due("size(10) behind what is none", x.size(10), 3);
        MownMaze y = Check.maze(SQUARE);
        y.thin();
        CHECK.due("size(10) behind thin()", y.size(10), 1);
    }

    private static void cellsAndSeed() {
        CHECK.says("UNDO: cells and SEED are as ahead of the latest (20 are kept).");
        MownMaze x = Check.maze(SQUARE);
        x.seed(5);
        x.thin();
        int thinned = x.size(9);
        x.seed(7);
        x.week();
        x.seed(8);
        CHECK.fine(x, "undo() of the week", x.undo());
        CHECK.due("cells ahead of the week", x.size(8), 3);
        CHECK.due("seed ahead of the week", x.size(9), 7);
        CHECK.due("size(10)", x.size(10), 1);
        CHECK.fine(x, "undo() of thin()", x.undo());
        CHECK.due("cells ahead of thin()", x.size(8), 4);
        CHECK.due("seed ahead of thin()", x.size(9), 5);
        CHECK.due("it was another one", thinned == 5, false);
        x.stand(1, 1);
        x.undo();
        x.stand(0, 0);
        CHECK.fine(x, "undo() of the latest", x.undo());
        CHECK.due("mown(0, 0)", x.mown(0, 0), 1);
        CHECK.refused(x, "undo() is no act that could be undone", x.undo(), 6);
    }

    private static void twentyAreKept() {
        for (int acts : new int[] {1, 19, 20, 21, 22, 40, 41, 60}) {
            MownMaze x = Check.maze(SQUARE);
            for (int i = 0; i < acts; i++) {
                x.seed(i);
                if (i % 2 == 0) {
                    x.stand(1, 1);
                } else {
                    x.mow(1, 1);
                }
            }
            int kept = Math.min(20, acts);
            CHECK.due("size(10) of " + acts, x.size(10), kept);
            for (int i = 0; i < kept; i++) {
                CHECK.fine(x, "undo() no. " + i + " of " + acts, x.undo());
                CHECK.due("size(9)", x.size(9), acts - 1 - i);
                CHECK.due("mown(1, 1)", x.mown(1, 1), (acts - 1 - i) % 2 == 0 ? 1 : 0);
                CHECK.due("size(10)", x.size(10), kept - 1 - i);
            }
            CHECK.refused(x, "undo() of what isn't kept", x.undo(), 6);
            CHECK.fine(x, "an act there", x.week(), 4 - (acts > 20 && acts % 2 == 1 ? 1 : 0));
            CHECK.due("size(10)", x.size(10), 1);
        }
    }

    private static void threeMarks() {
        CHECK.says("MARKS: up to 3; each keeps these; gone back to, nothing can be undone.");
        MownMaze x = Check.maze(SQUARE);
        for (int i = 0; i < 3; i++) {
            x.seed(i + 10);
            CHECK.fine(x, "mark() no. " + i, x.mark(), i);
            CHECK.due("size(11)", x.size(11), i + 1);
            x.stand(i % 2, i / 2);
        }
        for (int i = 0; i < 2; i++) {
            CHECK.refused(x, "mark() no. 3", x.mark(), 3);
            CHECK.due("size(11)", x.size(11), 3);
        }
        for (int mark : new int[] {2, 0, 1, 1, 0, 2}) {
            x.seed(1);
            x.week();
            CHECK.fine(x, "back(" + mark + ")", x.back(mark));
            CHECK.due("size(8)", x.size(8), 4 - mark);
            CHECK.due("size(9)", x.size(9), 10 + mark);
            CHECK.due("size(10)", x.size(10), 0);
            CHECK.due("size(11)", x.size(11), 3);
            CHECK.refused(x, "undo()", x.undo(), 6);
        }
        MownMaze y = Check.maze(SQUARE);
        y.stand(0, 0);
        y.mark();
        CHECK.due("a mark leaves what can be undone", y.size(10), 1);
        y.undo();
        CHECK.fine(y, "back(0) to what was undone", y.back(0));
        CHECK.due("size(8)", y.size(8), 3);
        CHECK.refused(y, "undo()", y.undo(), 6);
        CHECK.fine(y, "stand(1, 1)", y.stand(1, 1));
        CHECK.fine(y, "undo() of an act behind it", y.undo());
        CHECK.due("size(8)", y.size(8), 3);
    }

    private static void mowing() {
        CHECK.says("MOW: true; false: 1; 5 (it is MOWN).");
        MownMaze x = Check.maze(Check.rows("dusk 9 pays 1 shuts 2", "sm", "ss") + ";gate 0,0;walker a cow at 1,1 faces east leaves 0");
        CHECK.refused(x, "mow(1, 0)", x.mow(1, 0), 5);
        CHECK.fine(x, "mow(0, 0) of a gate", x.mow(0, 0));
        CHECK.fine(x, "mow(1, 1) of a walker's cell", x.mow(1, 1));
        CHECK.refused(x, "mow(1, 1)", x.mow(1, 1), 5);
        for (int[] at : BEYOND) {
            CHECK.refused(x, "mow(" + at[0] + ", " + at[1] + ")", x.mow(at[0], at[1]), 1);
        }
        CHECK.due("size(8)", x.size(8), 3);
        CHECK.due("size(10)", x.size(10), 2);
        MownMaze none = new MownMaze();
        CHECK.refused(none, "mow(0, 0) without a meadow", none.mow(0, 0), 1);
    }

    private static void standing() {
        CHECK.says("STAND: true; false: 1; 5 (it stands).");
        MownMaze x = Check.maze(SQUARE + ";gate 0,0;walker a cow at 1,1 faces east leaves 0");
        CHECK.fine(x, "stand(0, 0) of a gate", x.stand(0, 0));
        CHECK.fine(x, "stand(1, 1) of a walker's cell", x.stand(1, 1));
        CHECK.refused(x, "stand(1, 1)", x.stand(1, 1), 5);
        for (int[] at : BEYOND) {
            CHECK.refused(x, "stand(" + at[0] + ", " + at[1] + ")", x.stand(at[0], at[1]), 1);
        }
        CHECK.fine(x, "stand(1, 0)", x.stand(1, 0));
        CHECK.fine(x, "stand(0, 1)", x.stand(0, 1));
        CHECK.due("size(8)", x.size(8), 0);
        CHECK.due("size(10)", x.size(10), 4);
        MownMaze none = new MownMaze();
        CHECK.refused(none, "stand(0, 0) without a meadow", none.stand(0, 0), 1);
    }

    private static void weeks() {
        CHECK.says("A WEEK: how many cells shut. NONE: 1 (no MEADOW).");
        MownMaze x = Check.maze(SQUARE);
        CHECK.fine(x, "week() of all", x.week(), 4);
        CHECK.fine(x, "week() of none", x.week(), 0);
        CHECK.due("size(8)", x.size(8), 0);
        MownMaze none = new MownMaze();
        CHECK.refused(none, "week() without a meadow", none.week(), 1);
        CHECK.due("size(10)", none.size(10), 0);
    }

    private static void thinRefused() {
        CHECK.says("THIN: the cell. NONE: 1 (no MEADOW); 6 (there is none such).");
        MownMaze none = new MownMaze();
        CHECK.refused(none, "thin() without a meadow", none.thin(), 1);
        CHECK.due("size(9)", none.size(9), 0);
        MownMaze x = Check.maze(SQUARE);
        CHECK.fine(x, "thin()", x.thin(), 2);
        CHECK.refused(x, "thin() of three in a bend", x.thin(), 6);
        CHECK.due("size(9) stays", x.size(9), 74);
        CHECK.due("size(10) stays", x.size(10), 1);
    }

    private static void seeds() {
        CHECK.says("The MEADOW's SEED (no ACT): true; false: 1 (no MEADOW); 2 (0 .. 65,536).");
        MownMaze x = Check.maze(SQUARE);
        for (int v : new int[] {0, 1, 65535, 65536}) {
            CHECK.fine(x, "seed(" + v + ")", x.seed(v));
            CHECK.due("size(9)", x.size(9), v);
        }
        for (int v : new int[] {-1, 65537, 65538, Integer.MIN_VALUE, Integer.MAX_VALUE}) {
            CHECK.refused(x, "seed(" + v + ")", x.seed(v), 2);
            CHECK.due("size(9) stays", x.size(9), 65536);
        }
        CHECK.due("size(10): no act", x.size(10), 0);
        MownMaze none = new MownMaze();
        CHECK.refused(none, "seed(0) without a meadow", none.seed(0), 1);
        CHECK.refused(none, "seed(-1) without a meadow", none.seed(-1), 1);
        CHECK.due("size(9) without a meadow", none.size(9), 0);
    }

    private static void nothingToUndo() {
        CHECK.says("UNDO: true; false: 6.");
        MownMaze none = new MownMaze();
        CHECK.refused(none, "undo() without a meadow", none.undo(), 6);
        MownMaze x = Check.maze(SQUARE);
        CHECK.refused(x, "undo() in a new meadow", x.undo(), 6);
        x.seed(4);
        CHECK.refused(x, "undo() of a seed", x.undo(), 6);
        CHECK.due("size(9)", x.size(9), 4);
        x.mow(0, 0);
        CHECK.refused(x, "undo() of what was refused", x.undo(), 6);
        x.stand(0, 0);
        CHECK.fine(x, "undo()", x.undo());
        CHECK.refused(x, "undo() again", x.undo(), 6);
        x.stand(0, 0);
        Check.tell(x, SQUARE);
        CHECK.refused(x, "undo() in another meadow", x.undo(), 6);
    }

    private static void markAnswers() {
        CHECK.says("A MARK: its number. NONE: 1 (no MEADOW); 3.");
        MownMaze none = new MownMaze();
        CHECK.refused(none, "mark() without a meadow", none.mark(), 1);
        CHECK.due("size(11)", none.size(11), 0);
        MownMaze x = Check.maze(SQUARE);
        CHECK.fine(x, "mark()", x.mark(), 0);
        CHECK.fine(x, "mark()", x.mark(), 1);
        CHECK.fine(x, "mark()", x.mark(), 2);
        CHECK.refused(x, "mark()", x.mark(), 3);
        Check.tell(x, SQUARE);
        CHECK.fine(x, "mark() in another meadow", x.mark(), 0);
    }

    private static void goingBack() {
        CHECK.says("All is as by a MARK (all MARKS stay): true; false: 1.");
        MownMaze none = new MownMaze();
        CHECK.refused(none, "back(0) without a meadow", none.back(0), 1);
        MownMaze x = Check.maze(SQUARE);
        CHECK.refused(x, "back(0) without a mark", x.back(0), 1);
        x.mark();
        x.stand(0, 0);
        for (int mark : new int[] {-1, 1, 2, 3, Integer.MIN_VALUE, Integer.MAX_VALUE}) {
            CHECK.refused(x, "back(" + mark + ")", x.back(mark), 1);
            CHECK.due("size(8) stays", x.size(8), 3);
            CHECK.due("size(10) stays", x.size(10), 1);
        }
        CHECK.fine(x, "back(0)", x.back(0));
        CHECK.due("size(11)", x.size(11), 1);
        CHECK.fine(x, "mark() behind it", x.mark(), 1);
        CHECK.fine(x, "back(0) again", x.back(0));
        CHECK.fine(x, "back(1)", x.back(1));
        CHECK.refused(x, "back(2)", x.back(2), 1);
    }
}
