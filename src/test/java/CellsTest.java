/** Promises 6 to 13: cells, parts, rings, dead ends, ways. */
public final class CellsTest {
    private static final Check CHECK = new Check("CellsTest");

    /** A ring of eight, a straight way of three, a lone cell. */
    private static final String TEXT =
        "meadow wide 5 high 4 dusk 9 pays 1 shuts 4;row mmmsm;row msmsm;row mmmsm;row sssms";

    public static void main(String[] args) {
        MownMaze x = Check.maze(TEXT);
        single(x);
        whole(x);
        ways(x);
        parting(x);
        extremes();
        CHECK.end();
    }

    private static void single(MownMaze x) {
        CHECK.fine(x, "mown(0, 0)", x.mown(0, 0), 1);
        CHECK.fine(x, "mown(3, 3)", x.mown(3, 3), 1);
        CHECK.fine(x, "mown(4, 3)", x.mown(4, 3), 0);
        CHECK.fine(x, "mown(1, 1)", x.mown(1, 1), 0);
        CHECK.fine(x, "beside(1, 1)", x.beside(1, 1), 4);
        CHECK.fine(x, "beside(3, 1)", x.beside(3, 1), 2);
        CHECK.fine(x, "beside(3, 3)", x.beside(3, 3), 0);
        CHECK.fine(x, "beside(4, 0): no cell of the next row", x.beside(4, 0), 1);
        CHECK.fine(x, "beside(0, 1): no cell of the row above", x.beside(0, 1), 2);
        int[][] wrong = {{-1, 0}, {0, -1}, {5, 0}, {0, 4}, {Integer.MIN_VALUE, 0}, {0, Integer.MAX_VALUE}};
        for (int[] at : wrong) {
            CHECK.refused(x, "mown of none such", x.mown(at[0], at[1]), 1);
            CHECK.refused(x, "beside of none such", x.beside(at[0], at[1]), 1);
            CHECK.refused(x, "splits of none such", x.splits(at[0], at[1]), 1);
        }
    }

    private static void whole(MownMaze x) {
        CHECK.fine(x, "parts()", x.parts(), 3);
        CHECK.fine(x, "rings()", x.rings(), 1);
        CHECK.fine(x, "ends()", x.ends(), 2);
        CHECK.fine(x, "longest()", x.longest(), 4);
    }

    private static void ways(MownMaze x) {
        CHECK.fine(x, "steps(0, 12)", x.steps(0, 12), 4);
        CHECK.fine(x, "steps(12, 0)", x.steps(12, 0), 4);
        CHECK.fine(x, "steps(7, 5)", x.steps(7, 5), 4);
        CHECK.fine(x, "steps(4, 14)", x.steps(4, 14), 2);
        CHECK.fine(x, "steps(18, 18)", x.steps(18, 18), 0);
        CHECK.fine(x, "steps(0, 4)", x.steps(0, 4), -2);
        CHECK.fine(x, "steps(4, 5): rows end", x.steps(4, 5), -2);
        CHECK.fine(x, "steps(3, 3)", x.steps(3, 3), -2);
        CHECK.fine(x, "steps(0, 3)", x.steps(0, 3), -2);
        CHECK.fine(x, "steps(3, 0)", x.steps(3, 0), -2);
        CHECK.refused(x, "steps(20, 0)", x.steps(20, 0), 1);
        CHECK.refused(x, "steps(0, 20)", x.steps(0, 20), 1);
        CHECK.refused(x, "steps(-1, 0)", x.steps(-1, 0), 1);
        CHECK.refused(x, "steps(0, 64)", x.steps(0, 64), 1);
    }

    private static void parting(MownMaze x) {
        CHECK.fine(x, "splits(4, 1)", x.splits(4, 1), 1);
        CHECK.fine(x, "splits(4, 0)", x.splits(4, 0), 0);
        CHECK.fine(x, "splits(0, 0)", x.splits(0, 0), 0);
        CHECK.fine(x, "splits(3, 3): a part less", x.splits(3, 3), 0);
        CHECK.fine(x, "splits(3, 1): it stands", x.splits(3, 1), 0);
        x.mow(3, 2);
        CHECK.fine(x, "splits(3, 2)", x.splits(3, 2), 1);
        CHECK.fine(x, "parts()", x.parts(), 1);
        CHECK.fine(x, "longest()", x.longest(), 8);
    }

    private static void extremes() {
        MownMaze none = Check.maze("meadow wide 2 high 2 dusk 1 pays 0 shuts 1;row ss;row ss");
        CHECK.fine(none, "parts() of none", none.parts(), 0);
        CHECK.fine(none, "rings() of none", none.rings(), 0);
        CHECK.fine(none, "ends() of none", none.ends(), 0);
        CHECK.fine(none, "longest() of none", none.longest(), -2);
        none.mow(1, 1);
        CHECK.fine(none, "longest() of one", none.longest(), 0);
        CHECK.fine(none, "parts() of one", none.parts(), 1);
        CHECK.fine(none, "rings() of one", none.rings(), 0);
        MownMaze full = Check.maze("meadow wide 8 high 6 dusk 1 pays 0 shuts 1;row mmmmmmmm;row mmmmmmmm;"
            + "row mmmmmmmm;row mmmmmmmm;row mmmmmmmm;row mmmmmmmm");
        CHECK.fine(full, "parts() of all", full.parts(), 1);
        CHECK.fine(full, "rings() of all", full.rings(), 35);
        CHECK.fine(full, "longest() of all", full.longest(), 12);
        CHECK.fine(full, "steps(0, 47)", full.steps(0, 47), 12);
        MownMaze snake = Check.maze("meadow wide 8 high 6 dusk 1 pays 0 shuts 1;row mmmmmmmm;row sssssssm;"
            + "row mmmmmmmm;row msssssss;row mmmmmmmm;row sssssssm");
        CHECK.fine(snake, "longest() of a snake", snake.longest(), 26);
        CHECK.fine(snake, "ends() of a snake", snake.ends(), 2);
        MownMaze checked = Check.maze("meadow wide 8 high 6 dusk 1 pays 0 shuts 1;row msmsmsms;row smsmsmsm;"
            + "row msmsmsms;row smsmsmsm;row msmsmsms;row smsmsmsm");
        CHECK.fine(checked, "parts() of lone cells", checked.parts(), 24);
        CHECK.fine(checked, "rings() of lone cells", checked.rings(), 0);
    }
}
