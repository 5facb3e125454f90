/** Promises 14 to 24: how walkers go, when they are out, whom they meet, who is caught, what is paid. */
public final class WalkersTest {
    private static final Check CHECK = new Check("WalkersTest");

    public static void main(String[] args) {
        MownMaze x = Check.maze("meadow wide 3 high 3 dusk 12 pays 5 shuts 4;row mmm;row msm;row mmm;gate 1,2;"
            + "walker a left at 0,0 faces north leaves 2;walker b right at 0,0 faces west leaves 0;"
            + "walker c right at 1,0 faces west leaves 1;walker d once at 1,2 faces west leaves 4;"
            + "walker e left at 1,1 faces south leaves 13");
        tracks(x);
        outs(x);
        meetings(x);
        counts(x);
        catching(x);
        wrongNumbers(x);
        deadEnds();
        ringsOfWalkers();
        onceOnly();
        cows();
        byLot();
        dusk();
        CHECK.end();
    }

    private static void track(MownMaze x, int walker, int from, int... cells) {
        for (int i = 0; i < cells.length; i++) {
            CHECK.fine(x, "at(" + walker + ", " + (from + i) + ")", x.at(walker, from + i), cells[i]);
        }
    }

    private static void tracks(MownMaze x) {
        track(x, 0, 0, -2, -2, 0, 1, 2, 5, 8, 7, -2, -2, -2, -2, -2);
        track(x, 1, 0, 0, 3, 6, 7, -2);
        track(x, 2, 0, -2, 1, 0, 3, 6, 7, -2);
        track(x, 3, 3, -2, 7, -2);
        track(x, 4, 0, -2, -2);
        track(x, 4, 12, -2);
        CHECK.refused(x, "at(0, 13)", x.at(0, 13), 2);
        CHECK.refused(x, "at(0, -1)", x.at(0, -1), 2);
        CHECK.refused(x, "at(5, 99)", x.at(5, 99), 1);
        CHECK.refused(x, "at(-1, 0)", x.at(-1, 0), 1);
    }

    private static void outs(MownMaze x) {
        int[] outs = {7, 3, 5, 4, -2};
        int[] shouts = {5, 3, 4, 0, 0};
        int[] visits = {6, 4, 5, 1, 0};
        for (int walker = 0; walker < 5; walker++) {
            CHECK.fine(x, "out(" + walker + ")", x.out(walker), outs[walker]);
            CHECK.fine(x, "shouts(" + walker + ")", x.shouts(walker), shouts[walker]);
            CHECK.fine(x, "visits(" + walker + ")", x.visits(walker), visits[walker]);
            CHECK.fine(x, "ever(" + walker + ")", x.ever(walker), 1);
            CHECK.refused(x, "ring(" + walker + ")", x.ring(walker), 6);
        }
    }

    private static void meetings(MownMaze x) {
        CHECK.fine(x, "meets(0, 2)", x.meets(0, 2), 2);
        CHECK.fine(x, "meets(2, 0)", x.meets(2, 0), 2);
        CHECK.fine(x, "meets(0, 1)", x.meets(0, 1), -2);
        CHECK.fine(x, "meets(1, 2)", x.meets(1, 2), -2);
        CHECK.fine(x, "meets(0, 3): he is out ahead of it", x.meets(0, 3), -2);
        CHECK.fine(x, "meets(3, 4): both away", x.meets(3, 4), -2);
        CHECK.refused(x, "meets(1, 1)", x.meets(1, 1), 1);
        CHECK.refused(x, "meets(0, 5)", x.meets(0, 5), 1);
        CHECK.refused(x, "meets(-1, 0)", x.meets(-1, 0), 1);
        MownMaze y = Check.maze("meadow wide 2 high 2 dusk 3 pays 1 shuts 4;row mm;row mm;gate 1,0;"
            + "walker a right at 0,0 faces north leaves 0;walker b cow at 1,0 faces north leaves 1");
        CHECK.fine(y, "meets at a gate", y.meets(0, 1), 1);
    }

    private static void counts(MownMaze x) {
        int[] crowds = {1, 2, 3, 3, 3, 2, 1, 1, 0, 0, 0, 0, 0};
        for (int minute = 0; minute < crowds.length; minute++) {
            CHECK.fine(x, "crowd(" + minute + ")", x.crowd(minute), crowds[minute]);
        }
        CHECK.refused(x, "crowd(13)", x.crowd(13), 2);
        CHECK.refused(x, "crowd(-1)", x.crowd(-1), 2);
        CHECK.fine(x, "paid()", x.paid(), 60);
        CHECK.fine(x, "stuck()", x.stuck(), 16);
        MownMaze alone = Check.maze("meadow wide 2 high 2 dusk 3 pays 9 shuts 4;row mm;row mm");
        CHECK.fine(alone, "paid() for nobody", alone.paid(), 0);
        CHECK.fine(alone, "stuck() of nobody", alone.stuck(), 0);
        CHECK.fine(alone, "crowd(3) of nobody", alone.crowd(3), 0);
        CHECK.refused(alone, "out(0) of nobody", alone.out(0), 1);
    }

    private static void catching(MownMaze x) {
        CHECK.fine(x, "caught(0, 2, 2)", x.caught(0, 2, 2), 3);
        CHECK.fine(x, "caught(0, 0, 0)", x.caught(0, 0, 0), 2);
        CHECK.fine(x, "caught(1, 1, 2)", x.caught(1, 1, 2), 2);
        CHECK.fine(x, "caught(1, 0, 0)", x.caught(1, 0, 0), 0);
        CHECK.fine(x, "caught(3, 1, 0): at his gate", x.caught(3, 1, 0), 4);
        CHECK.fine(x, "caught(4, 0, 0): he never leaves", x.caught(4, 0, 0), -2);
        CHECK.refused(x, "caught(0, 1, 1)", x.caught(0, 1, 1), 5);
        CHECK.refused(x, "caught(0, 3, 0)", x.caught(0, 3, 0), 1);
        CHECK.refused(x, "caught(0, 0, -1)", x.caught(0, 0, -1), 1);
        CHECK.refused(x, "caught(5, 1, 1)", x.caught(5, 1, 1), 1);
        MownMaze y = Check.maze("meadow wide 5 high 2 dusk 3 pays 1 shuts 4;row mmmsm;row sssss;gate 0,0;"
            + "walker a left at 0,0 faces north leaves 0;walker b cow at 4,1 faces north leaves 0;"
            + "walker c cow at 4,0 faces north leaves 0");
        CHECK.fine(y, "caught(0, 1, 0): he is out ahead", y.caught(0, 1, 0), -2);
        CHECK.fine(y, "caught(1, 4, 0): his cell stands", y.caught(1, 4, 0), -2);
        CHECK.fine(y, "caught(2, 0, 0): no way", y.caught(2, 0, 0), -2);
        CHECK.fine(y, "caught(2, 4, 0)", y.caught(2, 4, 0), 0);
    }

    private static void wrongNumbers(MownMaze x) {
        for (int walker : new int[] {5, -1, Integer.MAX_VALUE, Integer.MIN_VALUE}) {
            CHECK.refused(x, "out", x.out(walker), 1);
            CHECK.refused(x, "ever", x.ever(walker), 1);
            CHECK.refused(x, "ring", x.ring(walker), 1);
            CHECK.refused(x, "shouts", x.shouts(walker), 1);
            CHECK.refused(x, "visits", x.visits(walker), 1);
        }
    }

    private static void deadEnds() {
        MownMaze x = Check.maze("meadow wide 3 high 2 dusk 6 pays 2 shuts 4;row mms;row sss;"
            + "walker a left at 0,0 faces west leaves 1;walker b right at 2,1 faces north leaves 0;"
            + "walker c cow at 0,0 faces north leaves 0");
        track(x, 0, 0, -2, 0, 1, 0, 1, 0, 1);
        CHECK.fine(x, "ring(0)", x.ring(0), 2);
        CHECK.fine(x, "ever(0)", x.ever(0), 0);
        track(x, 1, 0, 5, 5, 5);
        CHECK.fine(x, "ring(1)", x.ring(1), 1);
        CHECK.fine(x, "visits(1)", x.visits(1), 1);
        track(x, 2, 0, 0, 0);
        CHECK.fine(x, "ring(2)", x.ring(2), 1);
        CHECK.fine(x, "paid()", x.paid(), 34);
        CHECK.fine(x, "stuck()", x.stuck(), 7);
        CHECK.fine(x, "meets(0, 2)", x.meets(0, 2), 1);
    }

    private static void ringsOfWalkers() {
        MownMaze way = Check.maze("meadow wide 3 high 2 dusk 6 pays 2 shuts 4;row mmm;row sss;"
            + "walker a left at 1,0 faces north leaves 0");
        CHECK.fine(way, "ring(0): the same cell, facing otherwise", way.ring(0), 4);
        MownMaze round = Check.maze("meadow wide 3 high 3 dusk 6 pays 2 shuts 4;row mmm;row msm;row mmm;"
            + "walker a left at 1,1 faces south leaves 99");
        CHECK.fine(round, "ring(0) behind a start that stands", round.ring(0), 8);
        CHECK.fine(round, "ever(0)", round.ever(0), 0);
        MownMaze open = Check.maze("meadow wide 3 high 3 dusk 6 pays 2 shuts 4;row mmm;row mmm;row mmm;gate 2,2;"
            + "walker a left at 1,1 faces north leaves 0;walker b right at 1,1 faces north leaves 0");
        track(open, 0, 0, 4, 3, 6, 7, 4, 3, 6);
        track(open, 1, 0, 4, 5, 8, -2);
        CHECK.fine(open, "ring(0)", open.ring(0), 4);
    }

    private static void onceOnly() {
        String text = "meadow wide 3 high 2 dusk 9 pays 1 shuts 4;row mmm;row smm;walker a once at 0,0 faces west leaves 0";
        MownMaze x = Check.maze(text);
        track(x, 0, 0, 0, 1, 2, 5, 4, 5, 2, 1, 0, 0);
        CHECK.fine(x, "visits(0)", x.visits(0), 5);
        CHECK.fine(x, "ring(0)", x.ring(0), 1);
        CHECK.fine(x, "ever(0)", x.ever(0), 0);
        MownMaze y = Check.maze(text + ";gate 1,1");
        CHECK.fine(y, "out(0)", y.out(0), 4);
        // Each step is to a mown cell, so he can't go back to a start that stands.
        MownMaze z = Check.maze("meadow wide 2 high 2 dusk 9 pays 1 shuts 4;row mm;row sm;walker a once at 0,1 faces west leaves 0");
        track(z, 0, 0, 2, 0, 1, 3, 1, 0, 0, 0);
    }

    private static void cows() {
        MownMaze x = Check.maze("meadow wide 3 high 3 dusk 6 pays 1 shuts 4;row mmm;row msm;row mmm;noise 2,2;"
            + "walker a cow at 0,0 faces west leaves 0;walker b cow at 0,2 faces west leaves 0;"
            + "walker c cow at 1,1 faces north leaves 0");
        track(x, 0, 0, 0, 1, 2, 5, 8, 8, 8);
        track(x, 1, 0, 6, 7, 8, 8);
        track(x, 2, 0, 4, 5, 8, 8);
        CHECK.fine(x, "ring(0)", x.ring(0), 1);
        CHECK.fine(x, "size(7)", x.size(7), 8);
        x.stand(2, 2);
        track(x, 0, 0, 0, 0);
        x.undo();
        x.stand(1, 0);
        track(x, 0, 0, 0, 3, 6, 7, 8);
        x.stand(0, 1);
        track(x, 0, 0, 0, 0, 0);
        MownMaze y = Check.maze("meadow wide 3 high 2 dusk 6 pays 1 shuts 4;row mmm;row sss;noise 2,0;gate 1,0;"
            + "walker a cow at 0,0 faces west leaves 0");
        CHECK.fine(y, "out(0) on the way", y.out(0), 1);
    }

    private static void byLot() {
        MownMaze x = Check.maze("meadow wide 2 high 2 dusk 4 pays 1 shuts 4;row mm;row mm;"
            + "walker a lot at 0,0 faces west leaves 0;walker b lot at 0,0 faces west leaves 0");
        track(x, 0, 0, 0, 1, 3, 1, 3);
        track(x, 1, 0, 0, 2, 3);
        CHECK.fine(x, "seed(65536)", x.seed(65536));
        track(x, 0, 0, 0, 1, 3, 1);
        track(x, 1, 0, 0, 1, 3, 1, 3);
        CHECK.due("walkers leave the meadow's seed alone", x.size(9), 65536);
        CHECK.refused(x, "ever(0)", x.ever(0), 5);
        CHECK.refused(x, "ring(1)", x.ring(1), 5);
        x.stand(1, 0);
        x.stand(0, 1);
        track(x, 0, 0, 0, 0, 0);
    }

    private static void dusk() {
        MownMaze x = Check.maze("meadow wide 3 high 2 dusk 2 pays 7 shuts 4;row mmm;row sss;gate 2,0;"
            + "walker a left at 0,0 faces east leaves 0;walker b left at 0,0 faces east leaves 1;"
            + "walker c left at 2,0 faces east leaves 3;walker d left at 2,0 faces east leaves 2");
        CHECK.fine(x, "out(0) at dusk", x.out(0), 2);
        CHECK.fine(x, "out(1)", x.out(1), -2);
        CHECK.fine(x, "ever(1)", x.ever(1), 1);
        CHECK.refused(x, "ring(1)", x.ring(1), 6);
        CHECK.fine(x, "out(2) behind dusk", x.out(2), -2);
        CHECK.fine(x, "shouts(2)", x.shouts(2), 0);
        CHECK.fine(x, "visits(2)", x.visits(2), 0);
        CHECK.fine(x, "out(3)", x.out(3), 2);
        CHECK.fine(x, "stuck()", x.stuck(), 6);
        CHECK.fine(x, "paid()", x.paid(), 21);
        CHECK.fine(x, "meets(0, 3)", x.meets(0, 3), 2);
        CHECK.fine(x, "meets(0, 2)", x.meets(0, 2), -2);
    }
}
