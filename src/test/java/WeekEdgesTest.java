/** Terms III (weeks, the wall, shouts, the best cell) and promises 31 to 38, sentence by sentence. */
public final class WeekEdgesTest {
    private static final Check CHECK = new Check("WeekEdgesTest");
    private static final int[][] BEYOND = {{3, 0}, {-1, 1}, {0, 2}, {0, -1}, {3, 1}, {2, 2},
        {Integer.MIN_VALUE, 0}, {0, Integer.MIN_VALUE}, {Integer.MAX_VALUE, 0}, {0, Integer.MAX_VALUE}};

    public static void main(String[] args) {
        sidesThatShut();
        notGates();
        weeksOfACell();
        weeksOfWays();
        shutAnswers();
        shutWaysAnswers();
        fromTheWall();
        seenAnswers();
        gatesFromTheWall();
        placesByShouts();
        placeAnswers();
        bestCells();
        bestAnswers();
        CHECK.end();
    }

    private static String shuts(int sides) {
        return "dusk 9 pays 2 shuts " + sides;
    }

    private static String left(String name, String at, String side) {
        return ";walker " + name + " left at " + at + " faces " + side + " leaves 0";
    }

    private static void sidesThatShut() {
        CHECK.says("A WEEK: each MOWN cell with so many (shuts) sides or more to what stands, or beyond the meadow, "
            + "stands then, all at once");
        // The middle of 3 by 3 with no, one, .. four cells beside it that stand; its corners stand.
        String[][] rows = {{"sms", "mmm", "sms"}, {"sss", "mmm", "sms"}, {"sss", "smm", "sms"}, {"sss", "sms", "sms"}, {"sss", "sms", "sss"}};
        for (int sides = 1; sides <= 4; sides++) {
            for (int shut = 0; shut <= 4; shut++) {
                MownMaze x = Check.maze(Check.rows(shuts(sides), rows[shut]));
                CHECK.due("shut(1, 1) of " + shut + " by " + sides, x.shut(1, 1) == 1, shut >= sides);
                x.week();
                CHECK.due("mown(1, 1) of " + shut + " by " + sides, x.mown(1, 1), shut >= sides ? 0 : 1);
            }
        }
        // In 3 by 3, all mown: a corner has two sides beyond the meadow, an edge one, the middle none.
        int[] left = {1, 5, 9, 9};
        for (int sides = 1; sides <= 4; sides++) {
            MownMaze x = Check.maze(Check.rows(shuts(sides), "mmm", "mmm", "mmm"));
            CHECK.fine(x, "week() by " + sides, x.week(), 9 - left[sides - 1]);
            CHECK.due("size(8)", x.size(8), left[sides - 1]);
        }
        MownMaze pair = Check.maze(Check.rows(shuts(3), "mm", "ss"));
        CHECK.fine(pair, "week(): both at once", pair.week(), 2);
        MownMaze row = Check.maze(Check.rows(shuts(3), "mmm", "sss"));
        CHECK.fine(row, "week(): not the middle, as its ends shut but now", row.week(), 2);
        MownMaze corner = Check.maze(Check.rows(shuts(4), "ms", "sm"));
        CHECK.fine(corner, "week(): a lone cell has four", corner.week(), 2);
    }

    private static void notGates() {
        CHECK.says("not gates.");
        for (int sides = 1; sides <= 4; sides++) {
            MownMaze x = Check.maze(Check.rows(shuts(sides), "ms", "sm") + ";gate 0,0;gate 1,0");
            CHECK.fine(x, "week() by " + sides, x.week(), 1);
            CHECK.due("mown(0, 0)", x.mown(0, 0), 1);
            CHECK.due("mown(1, 1)", x.mown(1, 1), 0);
            CHECK.due("mown(1, 0): a gate that stands does still", x.mown(1, 0), 0);
            CHECK.fine(x, "shut(0, 0)", x.shut(0, 0), -2);
        }
        MownMaze walker = Check.maze(Check.rows(shuts(4), "ms", "ss") + left("a", "0,0", "north") + ";noise 0,0;heard 0 from 0,0");
        CHECK.fine(walker, "week(): a walker's cell shuts", walker.week(), 1);
    }

    private static void weeksOfACell() {
        CHECK.says("SHUT: behind how many WEEKS a cell stands that is MOWN now");
        MownMaze x = Check.maze(Check.rows(shuts(3), "mmmmmmmm", "sssssssm", "mmmmmmmm", "msssssss", "mmmmmmmm", "sssssssm") + ";gate 0,0");
        CHECK.fine(x, "shut() of the last cell", x.shut(7, 5), 1);
        CHECK.fine(x, "shut() of the one ahead", x.shut(7, 4), 2);
        CHECK.fine(x, "shut() of the gate's next", x.shut(1, 0), 26);
        CHECK.fine(x, "shut() of the gate", x.shut(0, 0), -2);
        for (int week = 25; week >= 0; week--) {
            x.week();
            if (week > 0) {
                CHECK.fine(x, "shut() a week later", x.shut(1, 0), week);
            }
        }
        CHECK.refused(x, "shut() of what stands by now", x.shut(1, 0), 5);
    }

    private static void weeksOfWays() {
        CHECK.says("behind how many no walker's cell has a way to any gate (0 now; 60 at most are looked at).");
        String snake = Check.rows(shuts(3), "mmmmmmmm", "sssssssm", "mmmmmmmm", "msssssss", "mmmmmmmm", "sssssssm") + ";gate 0,0";
        MownMaze next = Check.maze(snake + left("a", "1,0", "west"));
        CHECK.fine(next, "shutWays() beside the gate", next.shutWays(), 26);
        MownMaze last = Check.maze(snake + left("a", "7,5", "west"));
        CHECK.fine(last, "shutWays() at the end", last.shutWays(), 1);
        MownMaze both = Check.maze(snake + left("a", "7,5", "west") + left("b", "7,4", "west"));
        CHECK.fine(both, "shutWays() till no one has a way", both.shutWays(), 2);
        MownMaze between = Check.maze(Check.rows(shuts(3), "mmsmm", "mmmmm") + ";gate 0,0" + left("a", "4,1", "west"));
        CHECK.fine(between, "shutWays() of a ring", between.shutWays(), -2);
        MownMaze cut = Check.maze(Check.rows(shuts(2), "mmsmm", "mmmmm") + ";gate 0,0" + left("a", "4,1", "west"));
        CHECK.fine(cut, "shutWays() of corners", cut.shutWays(), 1);
        MownMaze now = Check.maze(Check.rows(shuts(4), "msm", "sss") + ";gate 0,0" + left("a", "2,0", "west"));
        CHECK.fine(now, "shutWays() now", now.shutWays(), 0);
        MownMaze any = Check.maze(Check.rows(shuts(4), "msmm", "ssss") + ";gate 0,0;gate 3,0" + left("a", "2,0", "west"));
        CHECK.fine(any, "shutWays(): any gate", any.shutWays(), -2);
        any.stand(3, 0);
        CHECK.fine(any, "shutWays(): a gate that stands is none", any.shutWays(), 0);
    }

    private static void shutAnswers() {
        CHECK.says("SHUT of a cell; -2 if it isn't behind 60. NONE: 1; 5 (it stands).");
        MownMaze x = Check.maze(Check.rows(shuts(3), "mms", "mms"));
        CHECK.fine(x, "shut(0, 0)", x.shut(0, 0), -2);
        CHECK.refused(x, "shut(2, 0)", x.shut(2, 0), 5);
        for (int[] at : BEYOND) {
            CHECK.refused(x, "shut(" + at[0] + ", " + at[1] + ")", x.shut(at[0], at[1]), 1);
        }
        CHECK.due("nothing is changed", x.size(8) == 4 && x.size(10) == 0, true);
        MownMaze none = new MownMaze();
        CHECK.refused(none, "shut(0, 0) without a meadow", none.shut(0, 0), 1);
    }

    private static void shutWaysAnswers() {
        CHECK.says("SHUT of all walkers' cells; -2 if some have a way behind 60 still. NONE: 1 (no MEADOW); 6 (no walkers).");
        String rows = Check.rows(shuts(3), "mmmm", "mmss") + ";gate 0,0";
        MownMaze some = Check.maze(rows + left("a", "3,0", "west") + left("b", "1,1", "west"));
        CHECK.fine(some, "shutWays(): some have a way still", some.shutWays(), -2);
        MownMaze one = Check.maze(rows + left("a", "3,0", "west"));
        CHECK.fine(one, "shutWays() of one", one.shutWays(), 1);
        MownMaze at = Check.maze(rows + left("a", "0,0", "west"));
        CHECK.fine(at, "shutWays() at a gate", at.shutWays(), -2);
        CHECK.due("nothing is changed", at.size(8) == 6 && at.size(10) == 0, true);
        MownMaze nobody = Check.maze(rows);
        CHECK.refused(nobody, "shutWays() without walkers", nobody.shutWays(), 6);
        MownMaze gateless = Check.maze(Check.rows(shuts(3), "mm", "mm") + left("a", "0,0", "west"));
        CHECK.fine(gateless, "shutWays() without gates", gateless.shutWays(), 0);
        MownMaze none = new MownMaze();
        CHECK.refused(none, "shutWays() without a meadow", none.shutWays(), 1);
    }

    private static void fromTheWall() {
        CHECK.says("SEEN from the wall (above): a cell, straight up (1), up to the left (2), up to the right (4), "
            + "if all cells on that line up to the meadow's edge are MOWN (itself aside).");
        MownMaze full = Check.maze(Check.rows(shuts(4), "mmm", "mmm", "mmm"));
        MownMaze bare = Check.maze(Check.rows(shuts(4), "sss", "sss", "sss"));
        int[] lines = {7, 7, 7, 2, 0, 4, 2, 0, 4};
        for (int cell = 0; cell < 9; cell++) {
            CHECK.fine(full, "seen() of " + cell + ", all mown", full.seen(cell % 3, cell / 3), 7);
            CHECK.fine(bare, "seen() of " + cell + ", none mown", bare.seen(cell % 3, cell / 3), lines[cell]);
        }
        // One cell stands: who is on a line below it isn't seen along that line.
        int[][] hidden = {{1, 0}, {1, 2}, {3, 3}};
        for (int[] at : hidden) {
            MownMaze x = Check.maze(Check.rows(shuts(4), "mmmmmmm", "mmmmmmm", "mmmmmmm", "mmmmmmm", "mmmmmmm", "mmmmmmm"));
            x.stand(at[0], at[1]);
            for (int y = 0; y < 6; y++) {
                for (int a = 0; a < 7; a++) {
                    int down = y - at[1];
                    int bits = 7;
                    bits -= down > 0 && a == at[0] ? 1 : 0;
                    bits -= down > 0 && a == at[0] + down ? 2 : 0;
                    bits -= down > 0 && a == at[0] - down ? 4 : 0;
                    CHECK.due("seen(" + a + ", " + y + ") below " + at[0] + ", " + at[1], x.seen(a, y), bits);
                }
            }
        }
        MownMaze side = Check.maze(Check.rows(shuts(4), "sss", "mss", "sms"));
        CHECK.fine(side, "seen(1, 2): a line may end at the left", side.seen(1, 2), 2);
        MownMaze other = Check.maze(Check.rows(shuts(4), "sss", "ssm", "sms"));
        CHECK.fine(other, "seen(1, 2): or at the right", other.seen(1, 2), 4);
    }

    private static void seenAnswers() {
        CHECK.says("SEEN, as bits. NONE: 1.");
        MownMaze x = Check.maze(Check.rows(shuts(4), "mss", "mss"));
        CHECK.fine(x, "seen(0, 0)", x.seen(0, 0), 7);
        CHECK.fine(x, "seen(0, 1)", x.seen(0, 1), 3);
        CHECK.fine(x, "seen(1, 1)", x.seen(1, 1), 2);
        CHECK.fine(x, "seen(2, 1)", x.seen(2, 1), 4);
        for (int[] at : BEYOND) {
            CHECK.refused(x, "seen(" + at[0] + ", " + at[1] + ")", x.seen(at[0], at[1]), 1);
        }
        MownMaze none = new MownMaze();
        CHECK.refused(none, "seen(0, 0) without a meadow", none.seen(0, 0), 1);
    }

    private static void gatesFromTheWall() {
        CHECK.says("Gates that are SEEN, as bits. NONE: 1 (no MEADOW).");
        MownMaze x = Check.maze(Check.rows(shuts(4), "sss", "sss", "sss") + ";gate 1,2;gate 0,2;gate 1,1;gate 1,0");
        CHECK.fine(x, "gatesSeen(): by any line, as told", x.gatesSeen(), 2 + 8);
        x.mow(2, 0);
        CHECK.fine(x, "gatesSeen() of one more", x.gatesSeen(), 2 + 4 + 8);
        x.mow(2, 1);
        CHECK.fine(x, "gatesSeen() of all", x.gatesSeen(), 15);
        MownMaze gateless = Check.maze(Check.rows(shuts(4), "mm", "mm"));
        CHECK.fine(gateless, "gatesSeen() without gates", gateless.gatesSeen(), 0);
        MownMaze none = new MownMaze();
        CHECK.refused(none, "gatesSeen() without a meadow", none.gatesSeen(), 1);
    }

    private static void placesByShouts() {
        CHECK.says("PLACES by shouts: MOWN cells that have just so many STEPS to each spot heard from.");
        String rows = Check.rows(shuts(4), "mmmmm", "ssssm", "mmmmm");
        int[] places = {1, 1, 1, 1, 1, 1, 1, 1, 1, 1, 1, 0};
        for (int steps = 0; steps < places.length; steps++) {
            MownMaze x = Check.maze(rows + ";heard " + steps + " from 0,0");
            CHECK.fine(x, "places() at " + steps, x.places(), places[steps]);
        }
        MownMaze here = Check.maze(rows + ";heard 0 from 2,0");
        CHECK.fine(here, "place(0): the spot itself", here.place(0), 2);
        MownMaze two = Check.maze(rows + ";heard 1 from 2,0");
        CHECK.fine(two, "places()", two.places(), 2);
        CHECK.fine(two, "place(0)", two.place(0), 1);
        CHECK.fine(two, "place(1)", two.place(1), 3);
        MownMaze both = Check.maze(rows + ";heard 1 from 2,0;heard 1 from 4,0;heard 3 from 0,0");
        CHECK.fine(both, "places() of all", both.places(), 1);
        CHECK.fine(both, "place(0)", both.place(0), 3);
        MownMaze odd = Check.maze(rows + ";heard 1 from 2,0;heard 2 from 2,0");
        CHECK.fine(odd, "places() of two that don't agree", odd.places(), 0);
        MownMaze far = Check.maze(rows + ";heard 60 from 2,0");
        CHECK.fine(far, "places() too far", far.places(), 0);
        MownMaze stands = Check.maze(rows + ";heard 0 from 0,1");
        CHECK.fine(stands, "places() from a spot that stands", stands.places(), 0);
        MownMaze snake = Check.maze(Check.rows(shuts(4), "mmmmmmmm", "sssssssm", "mmmmmmmm", "msssssss", "mmmmmmmm", "sssssssm")
            + ";heard 26 from 0,0");
        CHECK.fine(snake, "place(0) at the end of a snake", snake.place(0), 47);
    }

    private static void placeAnswers() {
        CHECK.says("PLACES: how many. NONE: 1 (no MEADOW).");
        MownMaze none = new MownMaze();
        CHECK.refused(none, "places() without a meadow", none.places(), 1);
        CHECK.refused(none, "place(0) without a meadow", none.place(0), 1);
        MownMaze silent = Check.maze(Check.rows(shuts(4), "sm", "mm"));
        CHECK.fine(silent, "places() if nothing was heard", silent.places(), 3);
        CHECK.says("The i-th of them. NONE: 1 (i).");
        for (int i = 0; i < 3; i++) {
            CHECK.fine(silent, "place(" + i + ")", silent.place(i), i + 1);
        }
        for (int i : new int[] {-1, 3, 4, 64, Integer.MIN_VALUE, Integer.MAX_VALUE}) {
            CHECK.refused(silent, "place(" + i + ")", silent.place(i), 1);
        }
        MownMaze bare = Check.maze(Check.rows(shuts(4), "ss", "ss"));
        CHECK.fine(bare, "places() if all stands", bare.places(), 0);
        CHECK.refused(bare, "place(0) if all stands", bare.place(0), 1);
    }

    private static void bestCells() {
        CHECK.says("BEST: the cell, no gate, no walker's, by which changed (MOWN, or standing) all are OUT till dusk and most is PAID; "
            + "of like ones the first; what is without any change counts not.");
        String way = ";row mmm;row sss;gate 2,0;walker a right at 0,0 faces east leaves 0";
        for (int dusk = 1; dusk <= 5; dusk++) {
            MownMaze x = Check.maze("meadow wide 3 high 2 dusk " + dusk + " pays 2 shuts 4" + way);
            // By cell 3 or 4 he goes two minutes round; by cell 5 nothing is changed for him; by cell 1 he can't get out.
            CHECK.fine(x, "best() till " + dusk, x.best(), dusk < 2 ? -2 : dusk < 4 ? 5 : 3);
            if (dusk >= 2) {
                CHECK.fine(x, "bestPaid() till " + dusk, x.bestPaid(), dusk < 4 ? 4 : 8);
            }
        }
        MownMaze by = Check.maze(Check.rows(shuts(4), "msm", "mmm") + ";gate 2,0;noise 2,0;walker a cow at 0,0 faces west leaves 0");
        CHECK.fine(by, "paid() as it is", by.paid(), 8);
        CHECK.fine(by, "best(): as it is counts not", by.best(), 1);
        CHECK.fine(by, "bestPaid()", by.bestPaid(), 4);
        MownMaze free = Check.maze("meadow wide 3 high 2 dusk 9 pays 0 shuts 4" + way);
        CHECK.fine(free, "best() if nothing is paid", free.best(), 3);
        CHECK.fine(free, "bestPaid() if nothing is paid", free.bestPaid(), 0);
        MownMaze mowing = Check.maze(Check.rows(shuts(4), "msm", "sss") + ";gate 2,0" + left("a", "0,0", "north"));
        CHECK.fine(mowing, "best() by mowing", mowing.best(), 1);
        mowing.mow(1, 0);
        CHECK.fine(mowing, "best() by another cell then", mowing.best(), 3);
        MownMaze standing = Check.maze(Check.rows(shuts(4), "mmm", "mmm") + ";gate 2,0;noise 2,0"
            + ";walker a cow at 0,0 faces east leaves 0;walker b cow at 0,1 faces east leaves 1;walker c cow at 2,1 faces east leaves 3");
        CHECK.fine(standing, "paid() by minutes 2, 3 and 1", standing.paid(), 12);
        CHECK.fine(standing, "best(): by cell 1 one goes round in 4", standing.best(), 1);
        CHECK.fine(standing, "bestPaid() by minutes 4, 3 and 1", standing.bestPaid(), 16);
        MownMaze all = Check.maze(Check.rows(shuts(4), "mmm", "sss") + ";gate 2,0" + left("a", "0,0", "north") + left("b", "0,1", "north")
            + ";walker c cow at 1,0 faces north leaves 0");
        CHECK.fine(all, "best(): not all get out", all.best(), -2);
        MownMaze late = Check.maze(Check.rows(shuts(4), "mmm", "sss") + ";gate 2,0;walker a left at 2,0 faces north leaves 9");
        CHECK.fine(late, "best() of one who leaves at dusk", late.best(), 0);
        MownMaze tooLate = Check.maze(Check.rows(shuts(4), "mmm", "sss") + ";gate 2,0;walker a left at 2,0 faces north leaves 10");
        CHECK.fine(tooLate, "best() of one who leaves behind dusk", tooLate.best(), -2);
    }

    private static void bestAnswers() {
        CHECK.says("BEST; -2 if there is none. NONE: 1 (no MEADOW).");
        MownMaze none = new MownMaze();
        CHECK.refused(none, "best() without a meadow", none.best(), 1);
        CHECK.refused(none, "bestPaid() without a meadow", none.bestPaid(), 1);
        MownMaze taken = Check.maze(Check.rows(shuts(4), "mm", "mm") + ";gate 0,0;gate 1,0" + left("a", "0,1", "north") + left("b", "1,1", "north"));
        CHECK.fine(taken, "best() if there are gates and walkers alone", taken.best(), -2);
        CHECK.says("What is PAID by it. NONE: 1 (no MEADOW); 6.");
        CHECK.refused(taken, "bestPaid()", taken.bestPaid(), 6);
        MownMaze one = Check.maze(Check.rows(shuts(4), "mm", "mm") + ";gate 0,0;gate 1,0" + left("a", "0,1", "north"));
        CHECK.fine(one, "best() of the one cell left", one.best(), 3);
        CHECK.fine(one, "bestPaid()", one.bestPaid(), 2);
        CHECK.due("nothing is changed", one.size(8) == 4 && one.size(10) == 0, true);
    }
}
