/** Promises 39 to 46: acts, the seed, undoing, marks. */
public final class ActsTest {
    private static final Check CHECK = new Check("ActsTest");
    private static final String SQUARE = "meadow wide 2 high 2 dusk 9 pays 1 shuts 2;row mm;row mm";

    public static void main(String[] args) {
        mowing();
        weeks();
        thinning();
        seeds();
        undoing();
        twentyActs();
        marks();
        CHECK.end();
    }

    private static void mowing() {
        MownMaze x = Check.maze("meadow wide 3 high 2 dusk 9 pays 1 shuts 2;row msm;row sss;gate 0,0;"
            + "walker a left at 2,0 faces east leaves 0");
        CHECK.fine(x, "mow(1, 1)", x.mow(1, 1));
        CHECK.due("mown(1, 1)", x.mown(1, 1), 1);
        CHECK.due("size(8)", x.size(8), 3);
        CHECK.refused(x, "mow(1, 1) again", x.mow(1, 1), 5);
        CHECK.refused(x, "mow(3, 0)", x.mow(3, 0), 1);
        CHECK.refused(x, "mow(0, -1)", x.mow(0, -1), 1);
        CHECK.fine(x, "stand(1, 1)", x.stand(1, 1));
        CHECK.due("mown(1, 1)", x.mown(1, 1), 0);
        CHECK.refused(x, "stand(1, 1) again", x.stand(1, 1), 5);
        CHECK.refused(x, "stand(0, 2)", x.stand(0, 2), 1);
        CHECK.refused(x, "stand(-1, 0)", x.stand(-1, 0), 1);
        CHECK.fine(x, "stand of a gate", x.stand(0, 0));
        CHECK.fine(x, "stand of a walker's cell", x.stand(2, 0));
        CHECK.due("what is refused is no act", x.size(10), 4);
    }

    private static void weeks() {
        MownMaze x = Check.maze("meadow wide 3 high 3 dusk 9 pays 1 shuts 2;row mmm;row mmm;row mmm;gate 0,0");
        CHECK.fine(x, "week()", x.week(), 3);
        CHECK.due("mown(0, 0) of a gate", x.mown(0, 0), 1);
        CHECK.due("mown(2, 2)", x.mown(2, 2), 0);
        CHECK.fine(x, "week() again", x.week(), 4);
        CHECK.fine(x, "week() a third time", x.week(), 1);
        CHECK.fine(x, "week() without a change", x.week(), 0);
        CHECK.due("each week is an act", x.size(10), 4);
        x.undo();
        CHECK.due("size(8)", x.size(8), 1);
        x.undo();
        CHECK.due("size(8)", x.size(8), 2);
        x.undo();
        CHECK.due("size(8)", x.size(8), 6);
        x.undo();
        CHECK.due("size(8)", x.size(8), 9);
    }

    private static void thinning() {
        MownMaze x = Check.maze(SQUARE);
        CHECK.fine(x, "thin()", x.thin(), 2);
        CHECK.due("size(9)", x.size(9), 74);
        CHECK.due("mown(0, 1)", x.mown(0, 1), 0);
        CHECK.refused(x, "thin() of a row", x.thin(), 6);
        CHECK.due("the seed stays", x.size(9), 74);
        CHECK.due("it is no act", x.size(10), 1);
        MownMaze kept = Check.maze(SQUARE + ";gate 0,0;walker a lot at 0,1 faces east leaves 0");
        CHECK.fine(kept, "thin() of the other two", kept.thin(), 1);
        MownMaze none = Check.maze(SQUARE + ";gate 0,0;gate 1,1;walker a lot at 0,1 faces east leaves 0;"
            + "walker b lot at 1,0 faces east leaves 0");
        CHECK.refused(none, "thin() of none", none.thin(), 6);
        MownMaze last = Check.maze(SQUARE);
        last.seed(65536);
        CHECK.fine(last, "thin() by 65536", last.thin(), 0);
        CHECK.due("size(9)", last.size(9), 65536);
        MownMaze odd = Check.maze(SQUARE);
        odd.seed(1);
        CHECK.fine(odd, "thin() by 149", odd.thin(), 1);
        MownMaze grown = Check.maze("meadow wide 4 high 2 dusk 9 pays 1 shuts 2;row mmmm;row mmss");
        CHECK.fine(grown, "thin(): of 0, 4 and 5 the third", grown.thin(), 5);
    }

    private static void seeds() {
        MownMaze x = Check.maze(SQUARE);
        CHECK.due("size(9) at first", x.size(9), 0);
        CHECK.fine(x, "seed(65536)", x.seed(65536));
        CHECK.due("size(9)", x.size(9), 65536);
        CHECK.refused(x, "seed(65537)", x.seed(65537), 2);
        CHECK.refused(x, "seed(-1)", x.seed(-1), 2);
        CHECK.due("size(9) stays", x.size(9), 65536);
        CHECK.fine(x, "seed(0)", x.seed(0));
        CHECK.due("it is no act", x.size(10), 0);
    }

    private static void undoing() {
        MownMaze x = Check.maze(SQUARE);
        CHECK.refused(x, "undo() of nothing", x.undo(), 6);
        x.seed(3);
        x.stand(0, 0);
        x.seed(4);
        CHECK.fine(x, "undo()", x.undo());
        CHECK.due("the seed is as ahead of the act", x.size(9), 3);
        CHECK.due("the cells too", x.size(8), 4);
        CHECK.refused(x, "undo() once more", x.undo(), 6);
        x.thin();
        x.undo();
        CHECK.due("the seed ahead of thin()", x.size(9), 3);
    }

    private static void twentyActs() {
        MownMaze x = Check.maze(SQUARE);
        for (int i = 0; i < 25; i++) {
            CHECK.due("size(10)", x.size(10), Math.min(20, i));
            x.seed(100 + i);
            CHECK.fine(x, "act no. " + i, i % 2 == 0 ? x.stand(0, 0) : x.mow(0, 0));
        }
        for (int i = 24; i >= 5; i--) {
            CHECK.fine(x, "undo() of act no. " + i, x.undo());
            CHECK.due("size(9)", x.size(9), 100 + i);
            CHECK.due("mown(0, 0)", x.mown(0, 0), i % 2 == 0 ? 1 : 0);
        }
        CHECK.refused(x, "undo() of what isn't kept", x.undo(), 6);
    }

    private static void marks() {
        MownMaze x = Check.maze(SQUARE);
        CHECK.fine(x, "mark()", x.mark(), 0);
        x.stand(0, 0);
        x.seed(9);
        CHECK.fine(x, "mark() again", x.mark(), 1);
        x.stand(1, 0);
        CHECK.fine(x, "mark() a third time", x.mark(), 2);
        CHECK.refused(x, "mark() a fourth time", x.mark(), 3);
        CHECK.due("size(11)", x.size(11), 3);
        CHECK.due("a mark is no act", x.size(10), 2);
        CHECK.fine(x, "back(0)", x.back(0));
        CHECK.due("cells", x.size(8), 4);
        CHECK.due("seed", x.size(9), 0);
        CHECK.due("nothing can be undone", x.size(10), 0);
        CHECK.refused(x, "undo()", x.undo(), 6);
        CHECK.due("all marks stay", x.size(11), 3);
        CHECK.fine(x, "back(2), told later", x.back(2));
        CHECK.due("cells", x.size(8), 2);
        CHECK.fine(x, "back(1)", x.back(1));
        CHECK.due("cells", x.size(8), 3);
        CHECK.due("seed", x.size(9), 9);
        CHECK.refused(x, "back(3)", x.back(3), 1);
        CHECK.refused(x, "back(-1)", x.back(-1), 1);
        x.week();
        CHECK.due("acts count again", x.size(10), 1);
        CHECK.fine(x, "undo()", x.undo());
    }
}
