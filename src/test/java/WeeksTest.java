/** Promises 31 to 38: weeks, the wall, shouts, the best cell. */
public final class WeeksTest {
    private static final Check CHECK = new Check("WeeksTest");

    public static void main(String[] args) {
        deadEnd();
        byShuts();
        waysShut();
        wall();
        shoutsHeard();
        bestCell();
        CHECK.end();
    }

    private static void deadEnd() {
        MownMaze x = Check.maze("meadow wide 5 high 2 dusk 9 pays 1 shuts 3;row mmmmm;row sssss;gate 0,0;"
            + "walker a left at 2,0 faces east leaves 0;walker b left at 3,0 faces east leaves 0");
        CHECK.fine(x, "shut(4, 0)", x.shut(4, 0), 1);
        CHECK.fine(x, "shut(3, 0)", x.shut(3, 0), 2);
        CHECK.fine(x, "shut(1, 0)", x.shut(1, 0), 4);
        CHECK.fine(x, "shut(0, 0) of a gate", x.shut(0, 0), -2);
        CHECK.refused(x, "shut(0, 1)", x.shut(0, 1), 5);
        CHECK.refused(x, "shut(5, 0)", x.shut(5, 0), 1);
        CHECK.refused(x, "shut(0, -1)", x.shut(0, -1), 1);
        CHECK.fine(x, "shutWays()", x.shutWays(), 3);
        CHECK.due("all is as it was", x.size(8) == 5 && x.size(10) == 0, true);
        x.stand(1, 0);
        CHECK.fine(x, "shutWays() now", x.shutWays(), 0);
    }

    private static void byShuts() {
        String rows = ";row mmmmmm;row mmmmmm;row mmmmmm;row mmmmmm;row mmmmmm";
        MownMaze one = Check.maze("meadow wide 6 high 5 dusk 9 pays 1 shuts 1" + rows);
        CHECK.fine(one, "shut(0, 2)", one.shut(0, 2), 1);
        CHECK.fine(one, "shut(1, 1)", one.shut(1, 1), 2);
        CHECK.fine(one, "shut(2, 2)", one.shut(2, 2), 3);
        MownMaze two = Check.maze("meadow wide 6 high 5 dusk 9 pays 1 shuts 2" + rows);
        CHECK.fine(two, "shut(0, 0) of a corner", two.shut(0, 0), 1);
        CHECK.fine(two, "shut(1, 0)", two.shut(1, 0), 2);
        CHECK.fine(two, "shut(0, 1)", two.shut(0, 1), 2);
        MownMaze three = Check.maze("meadow wide 6 high 5 dusk 9 pays 1 shuts 3" + rows);
        CHECK.fine(three, "shut(0, 0)", three.shut(0, 0), -2);
        MownMaze four = Check.maze("meadow wide 2 high 2 dusk 9 pays 1 shuts 4;row ms;row sm");
        CHECK.fine(four, "shut(0, 0)", four.shut(0, 0), 1);
        CHECK.fine(four, "week()", four.week(), 2);
    }

    private static void waysShut() {
        MownMaze none = Check.maze("meadow wide 2 high 2 dusk 9 pays 1 shuts 3;row mm;row mm;gate 0,0");
        CHECK.refused(none, "shutWays() without walkers", none.shutWays(), 6);
        MownMaze there = Check.maze("meadow wide 2 high 2 dusk 9 pays 1 shuts 1;row mm;row mm;gate 0,0;"
            + "walker a left at 0,0 faces east leaves 0");
        CHECK.fine(there, "shutWays() at a gate", there.shutWays(), -2);
        there.stand(0, 0);
        CHECK.fine(there, "shutWays() at a gate that stands", there.shutWays(), 0);
        MownMaze some = Check.maze("meadow wide 4 high 2 dusk 9 pays 1 shuts 3;row mmmm;row mmss;gate 0,0;"
            + "walker a left at 3,0 faces east leaves 0;walker b left at 1,1 faces east leaves 0");
        CHECK.fine(some, "shutWays(): one has a way still", some.shutWays(), -2);
        CHECK.fine(some, "shut(3, 0)", some.shut(3, 0), 1);
        MownMaze gateless = Check.maze("meadow wide 2 high 2 dusk 9 pays 1 shuts 3;row mm;row mm;"
            + "walker a left at 0,0 faces east leaves 0");
        CHECK.fine(gateless, "shutWays() without gates", gateless.shutWays(), 0);
    }

    private static void wall() {
        MownMaze x = Check.maze("meadow wide 4 high 3 dusk 9 pays 1 shuts 4;row mmsm;row msmm;row smmm;"
            + "gate 2,2;gate 0,0;gate 2,1");
        int[][] seen = {{7, 7, 7, 7}, {7, 3, 6, 5}, {3, 6, 4, 7}};
        for (int y = 0; y < 3; y++) {
            for (int a = 0; a < 4; a++) {
                CHECK.fine(x, "seen(" + a + ", " + y + ")", x.seen(a, y), seen[y][a]);
            }
        }
        CHECK.refused(x, "seen(4, 0)", x.seen(4, 0), 1);
        CHECK.refused(x, "seen(0, 3)", x.seen(0, 3), 1);
        CHECK.fine(x, "gatesSeen()", x.gatesSeen(), 7);
        x.stand(3, 1);
        CHECK.fine(x, "seen(2, 2)", x.seen(2, 2), 0);
        CHECK.fine(x, "gatesSeen()", x.gatesSeen(), 6);
        MownMaze none = Check.maze("meadow wide 2 high 2 dusk 9 pays 1 shuts 3;row mm;row mm");
        CHECK.fine(none, "gatesSeen() without gates", none.gatesSeen(), 0);
    }

    private static void shoutsHeard() {
        String text = "meadow wide 3 high 2 dusk 9 pays 1 shuts 4;row mmm;row mmm";
        MownMaze x = Check.maze(text + ";heard 1 from 0,0");
        CHECK.fine(x, "places()", x.places(), 2);
        CHECK.fine(x, "place(0)", x.place(0), 1);
        CHECK.fine(x, "place(1)", x.place(1), 3);
        CHECK.refused(x, "place(2)", x.place(2), 1);
        CHECK.refused(x, "place(-1)", x.place(-1), 1);
        CHECK.refused(x, "place(-2)", x.place(-2), 1);
        x.stand(0, 0);
        CHECK.fine(x, "places() if the spot stands", x.places(), 0);
        CHECK.refused(x, "place(0)", x.place(0), 1);
        MownMaze both = Check.maze(text + ";heard 1 from 0,0;heard 1 from 2,0");
        CHECK.fine(both, "places() by both", both.places(), 1);
        CHECK.fine(both, "place(0)", both.place(0), 1);
        MownMaze here = Check.maze(text + ";heard 0 from 2,1;heard 3 from 0,0");
        CHECK.fine(here, "places()", here.places(), 1);
        CHECK.fine(here, "place(0)", here.place(0), 5);
        MownMaze far = Check.maze(text + ";heard 60 from 2,1");
        CHECK.fine(far, "places() too far", far.places(), 0);
        MownMaze silent = Check.maze(text);
        CHECK.fine(silent, "places() without shouts", silent.places(), 6);
        CHECK.fine(silent, "place(5)", silent.place(5), 5);
    }

    private static void bestCell() {
        String rows = " pays 6 shuts 4;row mmm;row sss;gate 2,0";
        String walker = ";walker a right at 0,0 faces east leaves 0";
        MownMaze x = Check.maze("meadow wide 3 high 2 dusk 10" + rows + walker);
        CHECK.fine(x, "paid()", x.paid(), 12);
        CHECK.fine(x, "best(): the first of two", x.best(), 3);
        CHECK.fine(x, "bestPaid()", x.bestPaid(), 24);
        CHECK.due("all is as it was", x.size(8) == 3 && x.size(10) == 0, true);
        MownMaze early = Check.maze("meadow wide 3 high 2 dusk 3" + rows + walker);
        CHECK.fine(early, "best(): out till dusk", early.best(), 5);
        CHECK.fine(early, "bestPaid()", early.bestPaid(), 12);
        MownMaze two = Check.maze("meadow wide 3 high 2 dusk 9" + rows + walker + ";walker b cow at 0,1 faces east leaves 0");
        CHECK.fine(two, "best(): not all get out", two.best(), -2);
        CHECK.refused(two, "bestPaid()", two.bestPaid(), 6);
        MownMaze shut = Check.maze("meadow wide 3 high 2 dusk 9 pays 1 shuts 4;row msm;row sss;gate 2,0" + walker);
        CHECK.fine(shut, "best(): by mowing", shut.best(), 1);
        CHECK.fine(shut, "bestPaid()", shut.bestPaid(), 2);
        MownMaze nobody = Check.maze("meadow wide 2 high 2 dusk 9 pays 1 shuts 4;row mm;row mm;gate 0,0");
        CHECK.fine(nobody, "best() for nobody", nobody.best(), 1);
        CHECK.fine(nobody, "bestPaid() for nobody", nobody.bestPaid(), 0);
        MownMaze gates = Check.maze("meadow wide 2 high 2 dusk 9 pays 1 shuts 4;row mm;row mm;gate 0,0;gate 1,0;gate 0,1;"
            + "walker a left at 1,1 faces north leaves 0");
        CHECK.fine(gates, "best() without a cell to change", gates.best(), -2);
        CHECK.refused(gates, "bestPaid()", gates.bestPaid(), 6);
    }
}
