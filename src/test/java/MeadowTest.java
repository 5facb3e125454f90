/** Promises 1 to 5: a new object, the tape, texts and their faults. */
public final class MeadowTest {
    private static final String HEAD = "meadow wide 3 high 2 dusk 9 pays 1 shuts 4";
    private static final String ROWS = HEAD + ";row mmm;row msm";
    private static final Check CHECK = new Check("MeadowTest");

    public static void main(String[] args) {
        newObject();
        feeding();
        accepting();
        formFaults();
        toldAgain();
        bounds();
        many();
        lacks();
        rows();
        whatStays();
        CHECK.end();
    }

    private static void newObject() {
        MownMaze x = new MownMaze();
        CHECK.due("NONE", MownMaze.NONE, -1);
        CHECK.due("trouble()", x.trouble(), 0);
        CHECK.due("fault()", x.fault(), 0);
        CHECK.due("where()", x.where(), -1);
        for (int what = 0; what <= 12; what++) {
            CHECK.due("size(" + what + ")", x.size(what), 0);
        }
        CHECK.due("size(13)", x.size(13), -1);
        CHECK.due("size(-1)", x.size(-1), -1);
        CHECK.refused(x, "mown(0, 0)", x.mown(0, 0), 1);
        CHECK.refused(x, "beside(0, 0)", x.beside(0, 0), 1);
        CHECK.refused(x, "rings()", x.rings(), 1);
        CHECK.refused(x, "ends()", x.ends(), 1);
        CHECK.refused(x, "steps(0, 0)", x.steps(0, 0), 1);
        CHECK.refused(x, "longest()", x.longest(), 1);
        CHECK.refused(x, "splits(0, 0)", x.splits(0, 0), 1);
        CHECK.refused(x, "at(0, 0)", x.at(0, 0), 1);
        CHECK.refused(x, "at(0, -1)", x.at(0, -1), 1);
        CHECK.refused(x, "out(0)", x.out(0), 1);
        CHECK.refused(x, "ever(0)", x.ever(0), 1);
        CHECK.refused(x, "ring(0)", x.ring(0), 1);
        CHECK.refused(x, "meets(0, 1)", x.meets(0, 1), 1);
        CHECK.refused(x, "shouts(0)", x.shouts(0), 1);
        CHECK.refused(x, "visits(0)", x.visits(0), 1);
        CHECK.refused(x, "crowd(-1)", x.crowd(-1), 1);
        CHECK.refused(x, "paid()", x.paid(), 1);
        CHECK.refused(x, "stuck()", x.stuck(), 1);
        CHECK.refused(x, "caught(0, 0, 0)", x.caught(0, 0, 0), 1);
        CHECK.refused(x, "unlike(true)", x.unlike(true), 1);
        CHECK.refused(x, "firstUnlike(false)", x.firstUnlike(false), 1);
        CHECK.refused(x, "clash()", x.clash(), 1);
        CHECK.refused(x, "changes()", x.changes(), 1);
        CHECK.refused(x, "toMow()", x.toMow(), 1);
        CHECK.refused(x, "strokes()", x.strokes(), 1);
        CHECK.refused(x, "shut(0, 0)", x.shut(0, 0), 1);
        CHECK.refused(x, "shutWays()", x.shutWays(), 1);
        CHECK.refused(x, "seen(0, 0)", x.seen(0, 0), 1);
        CHECK.refused(x, "gatesSeen()", x.gatesSeen(), 1);
        CHECK.refused(x, "places()", x.places(), 1);
        CHECK.refused(x, "place(0)", x.place(0), 1);
        CHECK.refused(x, "best()", x.best(), 1);
        CHECK.refused(x, "bestPaid()", x.bestPaid(), 1);
        CHECK.refused(x, "mow(0, 0)", x.mow(0, 0), 1);
        CHECK.refused(x, "undo()", x.undo(), 6);
        CHECK.refused(x, "stand(0, 0)", x.stand(0, 0), 1);
        CHECK.refused(x, "seed(70000)", x.seed(70000), 1);
        CHECK.refused(x, "back(0)", x.back(0), 1);
        CHECK.refused(x, "week()", x.week(), 1);
        CHECK.refused(x, "mark()", x.mark(), 1);
    }

    private static void feeding() {
        MownMaze x = new MownMaze();
        for (int i = 1; i <= 45; i++) {
            CHECK.due("feed no. " + i, x.feed(-1, 0, 1, Integer.MIN_VALUE, Integer.MAX_VALUE), 20 * i);
        }
        CHECK.due("feed beyond 900", x.feed(0, 0, 0, 0, 0), -1);
        CHECK.due("feed beyond 900 again", x.feed(0, 0, 0, 0, 0), -1);
        CHECK.due("size(12)", x.size(12), 900);
        CHECK.due("feed tells no trouble", x.trouble(), 0);
        CHECK.refused(x, "meadow(901)", x.meadow(901), 2);
        CHECK.refused(x, "meadow(-1)", x.meadow(-1), 2);
        CHECK.due("the tape stays", x.size(12), 900);
        CHECK.refused(x, "meadow(900)", x.meadow(900), 4);
        CHECK.due("fault() of a byte 255", x.fault(), 1);
        CHECK.due("where()", x.where(), 0);
        CHECK.due("the tape is empty", x.size(12), 0);
        CHECK.due("feed keeps where()", x.feed(0, 0, 0, 0, 0) == 20 && x.where() == 0, true);
    }

    private static void accepting() {
        MownMaze x = new MownMaze();
        Check.feed(x, ROWS + "  nothing of this is read");
        CHECK.fine(x, "meadow()", x.meadow(ROWS.length()), 5);
        CHECK.due("the tape is empty", x.size(12), 0);
        CHECK.due("fault()", x.fault(), 0);
        CHECK.due("where()", x.where(), -1);
        CHECK.due("blanks alone part tokens", Check.tell(x, "  meadow wide2high2 dusk001pays 0shuts 4 ;  row mm ;row ss  "), 2);
        CHECK.due("size(2)", x.size(2), 1);
        String rich = "meadow wide 8 high 6 dusk 200 pays 99 shuts 1;row mmmmmmmm;row ssssssss;row mmmmmmmm;"
            + "row mmmmmmmm;row mmmmmmmm;row mmmmmmmm;want aaaaaaaa;moon msamsams;gate 0,0;gate 7, 5;gate 7,0;gate 0,5;"
            + "noise 7,5;heard 0 from 0,0;heard 60 from 7,5;heard 1 from 1,1;heard 1 from 1,1;heard 2 from 2,2;"
            + "walker left left at 0,0 faces north leaves 0;walker at right at 7,5 faces east leaves 99;"
            + "walker once once at 0,0 faces south leaves 1;walker cow cow at 1,1 faces west leaves 2;"
            + "walker abcdefgh lot at 3,3 faces west leaves 50";
        CHECK.fine(x, "a rich meadow", Check.tell(x, rich), 40);
        int[] sizes = {8, 6, 200, 99, 4, 5, 5, 47, 40, 0, 0, 0, 0};
        for (int what = 0; what < sizes.length; what++) {
            CHECK.due("size(" + what + ")", x.size(what), sizes[what]);
        }
    }

    /** One fault of a text, on an object that has no meadow. */
    private static void fault(String text, int number, int place) {
        MownMaze x = new MownMaze();
        CHECK.refused(x, text, Check.tell(x, text), 4);
        CHECK.due("fault() of " + text, x.fault(), number);
        CHECK.due("where() of " + text, x.where(), place);
        CHECK.due("no meadow by " + text, x.size(0), 0);
    }

    /** A fault behind a text that goes well, counted from that text's end. */
    private static void faultBehind(String text, String more, int number, int place) {
        fault(text + more, number, text.length() + place);
    }

    private static void formFaults() {
        fault("", 1, 0);
        fault("    ", 1, 4);
        fault("wide", 1, 0);
        fault("12", 1, 0);
        fault(";", 1, 0);
        fault("Meadow", 1, 0);
        fault("meadows wide", 1, 0);
        fault("meadow high", 1, 7);
        fault("meadow wide", 1, 11);
        fault("meadow wide   ", 1, 14);
        fault("meadow wide x", 1, 12);
        fault("meadow wide 0003", 1, 12);
        fault("meadow wide 3 ; row mmm", 1, 14);
        faultBehind(HEAD, ",", 1, 0);
        faultBehind(HEAD, ";", 1, 1);
        faultBehind(HEAD, " ;", 1, 2);
        faultBehind(HEAD, ";;row mmm", 1, 1);
        faultBehind(HEAD, " row mmm", 1, 1);
        faultBehind(HEAD, ";row mmm\u00e9", 1, 8);
        faultBehind(HEAD, ";row mmm\t", 1, 8);
        faultBehind(HEAD, ";row mmmmmmmmm", 1, 5);
        faultBehind(HEAD, ";row 12", 1, 5);
        faultBehind(HEAD, ";row", 1, 4);
        faultBehind(HEAD, ";gate 1 1", 1, 8);
        faultBehind(HEAD, ";gate 1,x", 1, 8);
        faultBehind(HEAD, ";heard 1 at 1,1", 1, 9);
        faultBehind(HEAD, ";walker 1", 1, 8);
        for (String name : "meadow row want moon gate noise heard walker".split(" ")) {
            faultBehind(HEAD, ";walker " + name + " left", 1, 8);
        }
        faultBehind(HEAD, ";walker abcdefghi left", 1, 8);
        faultBehind(HEAD, ";walker a bull", 1, 10);
        faultBehind(HEAD, ";walker a left in 1,1", 1, 15);
        faultBehind(HEAD, ";walker a left at 1,1 facing", 1, 22);
        faultBehind(HEAD, ";walker a left at 1,1 faces left", 1, 28);
        faultBehind(HEAD, ";walker a left at 1,1 faces north leave 1", 1, 34);
        faultBehind(HEAD, ";walker a left at 1,1 faces north leaves 0100", 1, 41);
        faultBehind(ROWS, ";", 1, 1);
        faultBehind(ROWS, "; ", 1, 2);
    }

    private static void toldAgain() {
        String walker = ROWS + ";walker a left at 0,0 faces north leaves 1";
        faultBehind(walker, ";walker a odd", 3, 8);
        faultBehind(ROWS + ";gate 1,0;gate 0,1", ";gate 1,0 ?", 3, 8);
        faultBehind(ROWS, ";meadow", 3, 1);
        faultBehind(ROWS + ";noise 0,0", "; noise ?", 3, 2);
    }

    private static void bounds() {
        fault("meadow wide 1", 4, 12);
        fault("meadow wide 9 ?", 4, 12);
        fault("meadow wide 2 high 1", 4, 19);
        fault("meadow wide 2 high 7", 4, 19);
        fault("meadow wide 2 high 6 dusk 0", 4, 26);
        fault("meadow wide 2 high 6 dusk 201", 4, 26);
        fault("meadow wide 2 high 6 dusk 1 pays 100", 4, 33);
        fault("meadow wide 2 high 6 dusk 1 pays 1 shuts 0", 4, 41);
        fault("meadow wide 2 high 6 dusk 1 pays 1 shuts 5", 4, 41);
        faultBehind(ROWS, ";gate 3,0", 4, 6);
        faultBehind(ROWS, ";gate 2,2", 4, 8);
        faultBehind(ROWS, ";noise 3,0", 4, 7);
        faultBehind(ROWS, ";noise 0,2", 4, 9);
        faultBehind(ROWS, ";heard 61 from", 4, 7);
        faultBehind(ROWS, ";heard 60 from 3,0", 4, 15);
        faultBehind(ROWS, ";heard 60 from 0,2", 4, 17);
        faultBehind(ROWS, ";walker a left at 3,0", 4, 18);
        faultBehind(ROWS, ";walker a left at 0,2", 4, 20);
        faultBehind(ROWS, ";walker a left at 0,1 faces west leaves 100", 4, 40);
    }

    private static void many() {
        faultBehind(ROWS, ";row", 5, 1);
        faultBehind(HEAD + ";want aaa;want msa", ";want ?", 5, 1);
        faultBehind(HEAD + ";moon aaa;moon msa", "; moon", 5, 2);
        faultBehind(ROWS + ";gate 0,0;gate 1,0;gate 2,0;gate 0,1", ";gate 0,0", 5, 1);
        String heard = ";heard 1 from 0,0";
        faultBehind(ROWS + heard + heard + heard + heard + heard, heard, 5, 1);
        String walkers = "";
        for (char name = 'a'; name < 'f'; name++) {
            walkers += ";walker " + name + " lot at 0,0 faces east leaves 0";
        }
        faultBehind(ROWS + walkers, ";walker a", 5, 1);
    }

    private static void lacks() {
        for (String sort : "row want moon gate noise heard walker".split(" ")) {
            fault(" " + sort + " mm;" + ROWS, 6, 1);
        }
        fault(HEAD, 6, HEAD.length());
        fault(HEAD + ";row mmm  ", 6, HEAD.length() + 10);
        fault(HEAD + ";want mmm;want mmm", 6, HEAD.length() + 18);
        fault(HEAD + ";row mmm;", 1, HEAD.length() + 9);
    }

    private static void rows() {
        faultBehind(HEAD, ";row mm", 7, 5);
        faultBehind(HEAD, ";row mmmm", 7, 5);
        faultBehind(HEAD, ";row mma", 7, 5);
        faultBehind(HEAD, ";row row", 7, 5);
        faultBehind(HEAD, ";want mmb", 7, 6);
        faultBehind(HEAD, ";moon aa", 7, 6);
        faultBehind(HEAD, ";moon aaaaaaaa", 7, 6);
    }

    private static void whatStays() {
        MownMaze x = Check.maze(ROWS + ";noise 1,1");
        x.seed(5);
        x.stand(0, 0);
        x.mark();
        CHECK.refused(x, "a faulty text", Check.tell(x, HEAD + ";row ?"), 4);
        CHECK.due("the meadow stays", x.size(8), 4);
        CHECK.due("its seed stays", x.size(9), 5);
        CHECK.due("its acts stay", x.size(10), 1);
        CHECK.due("its marks stay", x.size(11), 1);
        CHECK.due("its noise stays", x.size(7), 4);
        CHECK.due("where()", x.where(), HEAD.length() + 5);
        CHECK.refused(x, "meadow(1)", x.meadow(1), 2);
        CHECK.due("fault() stays, refused by 2", x.fault(), 1);
        CHECK.due("where() does not", x.where(), -1);
        x.meadow(0);
        CHECK.due("where() of nothing", x.where(), 0);
        x.parts();
        CHECK.due("where() behind another call", x.where(), -1);
        CHECK.due("fault() behind another call", x.fault(), 1);
        CHECK.fine(x, "a new meadow", Check.tell(x, ROWS), 5);
        CHECK.due("seed", x.size(9), 0);
        CHECK.due("acts", x.size(10), 0);
        CHECK.due("marks", x.size(11), 0);
        CHECK.due("noise", x.size(7), -2);
        CHECK.due("fault()", x.fault(), 0);
        CHECK.refused(x, "undo()", x.undo(), 6);
        CHECK.refused(x, "back(0)", x.back(0), 1);
    }
}
