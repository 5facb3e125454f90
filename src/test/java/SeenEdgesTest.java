import java.util.NoSuchElementException;

/** Terms IV and promises 47 to 49, sentence by sentence, and how long an object is used. */
public final class SeenEdgesTest {
    private static final Check CHECK = new Check("SeenEdgesTest");
    private static final String BARE = Check.rows("dusk 9 pays 7 shuts 4", "sss", "sss", "sss");
    private static final int THROWN = -9;

    public static void main(String[] args) {
        constant();
        gatesNotSeen();
        sizes();
        sizesThereAreNot();
        troubles();
        troubleOfTheLatest();
        whoLeavesTroubleAlone();
        manyCalls();
        CHECK.end();
    }

    private static int led(MownMaze x, int i) {
        try {
            return x.led(i);
        } catch (NoSuchElementException none) {
            return THROWN;
        }
    }

    private static void constant() {
        CHECK.says("`NONE = -1`: There is none; refused.");
        CHECK.due("NONE", MownMaze.NONE, -1);
        CHECK.due("size(13)", new MownMaze().size(13), MownMaze.NONE);
        CHECK.due("where()", new MownMaze().where(), MownMaze.NONE);
        CHECK.due("parts()", new MownMaze().parts(), MownMaze.NONE);
    }

    private static void gatesNotSeen() {
        CHECK.says("The i-th gate that isn't SEEN. NoSuchElementException if there is none such.");
        int[] wild = {-1, 4, 5, Integer.MIN_VALUE, Integer.MAX_VALUE};
        MownMaze none = new MownMaze();
        MownMaze gateless = Check.maze(BARE);
        MownMaze seen = Check.maze(BARE + ";gate 0,0;gate 1,0;gate 2,0;gate 0,1");
        for (int i = 0; i < 5; i++) {
            CHECK.due("led(" + i + ") without a meadow", led(none, i), THROWN);
            CHECK.due("led(" + i + ") without gates", led(gateless, i), THROWN);
            CHECK.due("led(" + i + ") if all are seen", led(seen, i), THROWN);
        }
        MownMaze hidden = Check.maze(Check.rows("dusk 9 pays 7 shuts 4", "sssss", "sssss", "sssss")
            + ";gate 1,2;gate 2,2;gate 3,2;gate 1,1");
        for (int i = 0; i < 4; i++) {
            CHECK.due("led(" + i + ") if none is", led(hidden, i), i);
        }
        for (int i : wild) {
            CHECK.due("led(" + i + ")", led(hidden, i), THROWN);
            CHECK.due("led(" + i + ") without a meadow", led(none, i), THROWN);
        }
        MownMaze some = Check.maze(BARE + ";gate 0,2;gate 1,2;gate 2,2;gate 1,1");
        CHECK.due("led(0): the first that isn't", led(some, 0), 1);
        CHECK.due("led(1): the next", led(some, 1), 3);
        CHECK.due("led(2)", led(some, 2), THROWN);
        Check.tell(some, BARE);
        CHECK.due("led(0): gates of an earlier meadow are gone", led(some, 0), THROWN);
        Check.tell(some, BARE + ";gate 1,2");
        CHECK.due("led(1): gates of an earlier meadow are gone", led(some, 1), THROWN);
        Check.tell(some, BARE);
        CHECK.due("led(0): gates of an earlier meadow are gone", led(some, 0), THROWN);
        Check.tell(some, BARE + ";gate 0,2;gate 1,2;gate 2,2;gate 1,1");
        some.mow(1, 0);
        CHECK.due("led(0) of one less", led(some, 0), 1);
        CHECK.due("led(1) of one less", led(some, 1), THROWN);
    }

    private static void sizes() {
        CHECK.says("0 wide, 1 high, 2 dusk, 3 pays, 4 gates, 5 walkers, 6 shouts heard, 7 the noise's cell (-2), 8 cells MOWN, "
            + "9 SEED, 10 ACTS that can be undone, 11 MARKS, 12 bytes of THE TAPE.");
        MownMaze x = Check.maze(Check.rows("dusk 200 pays 99 shuts 4", "mmmmmmmm", "mmmmmmmm", "mmmmmmmm", "mmmmmmmm", "mmmmmmmm", "mmmmmmmm")
            + ";gate 0,0;gate 1,0;gate 2,0;gate 3,0;noise 7,5" + ";heard 1 from 0,0".repeat(5)
            + ";walker a lot at 0,0 faces east leaves 0;walker b lot at 0,0 faces east leaves 0;walker c lot at 0,0 faces east leaves 0;"
            + "walker d lot at 0,0 faces east leaves 0;walker e lot at 0,0 faces east leaves 0");
        x.mark();
        x.mark();
        x.mark();
        for (int i = 0; i < 21; i++) {
            x.week();
        }
        x.seed(65536);
        for (int i = 0; i < 46; i++) {
            x.feed(0, 0, 0, 0, 0);
        }
        due(x, 8, 6, 200, 99, 4, 5, 5, 47, 48, 65536, 20, 3, 900);
        MownMaze least = Check.maze(Check.rows("dusk 1 pays 0 shuts 4", "ss", "ss"));
        due(least, 2, 2, 1, 0, 0, 0, 0, -2, 0, 0, 0, 0, 0);
        MownMaze noise = Check.maze(Check.rows("dusk 1 pays 0 shuts 4", "ss", "ss") + ";noise 0,0");
        due(noise, 2, 2, 1, 0, 0, 0, 0, 0, 0, 0, 0, 0, 0);
        noise.mow(1, 1);
        noise.mow(0, 1);
        noise.undo();
        CHECK.due("size(8) behind acts", noise.size(8), 1);
        CHECK.due("size(10) behind acts", noise.size(10), 1);
    }

    private static void due(MownMaze x, int... sizes) {
        for (int what = 0; what < sizes.length; what++) {
            CHECK.due("size(" + what + ")", x.size(what), sizes[what]);
        }
    }

    private static void sizesThereAreNot() {
        CHECK.says("NONE for others; 0 for what there isn't.");
        MownMaze none = new MownMaze();
        due(none, 0, 0, 0, 0, 0, 0, 0, 0, 0, 0, 0, 0, 0);
        none.feed(1, 2, 3, 4, 5);
        due(none, 0, 0, 0, 0, 0, 0, 0, 0, 0, 0, 0, 0, 20);
        none.meadow(20);
        due(none, 0, 0, 0, 0, 0, 0, 0, 0, 0, 0, 0, 0, 0);
        Check.tell(none, "meadow wide 8 high 6 dusk 200 pays 99 shuts 4;noise 7,5;gate 1,1;row ?");
        due(none, 0, 0, 0, 0, 0, 0, 0, 0, 0, 0, 0, 0, 0);
        MownMaze x = Check.maze(BARE);
        for (int what : new int[] {-1, -2, 13, 14, 64, Integer.MIN_VALUE, Integer.MAX_VALUE}) {
            CHECK.due("size(" + what + ")", x.size(what), -1);
            CHECK.due("size(" + what + ") without a meadow", none.size(what), -1);
        }
    }

    private static void troubles() {
        CHECK.says("0 it wasn't; 1 there is none such; 2 a number; 3 no room; 4 a FAULT; 5 not so; 6 there is none.");
        MownMaze x = new MownMaze();
        CHECK.due("trouble() ahead of any call", x.trouble(), 0);
        CHECK.refused(x, "mown(0, 0)", x.mown(0, 0), 1);
        CHECK.refused(x, "meadow(1)", x.meadow(1), 2);
        CHECK.refused(x, "meadow(0)", x.meadow(0), 4);
        CHECK.refused(x, "undo()", x.undo(), 6);
        Check.tell(x, BARE);
        CHECK.due("trouble() behind a good one", x.trouble(), 0);
        x.mark();
        x.mark();
        x.mark();
        CHECK.refused(x, "mark()", x.mark(), 3);
        CHECK.refused(x, "stand(0, 0)", x.stand(0, 0), 5);
        CHECK.says("TROUBLE.");
        CHECK.due("trouble() asked again", x.trouble(), 5);
        CHECK.due("trouble() asked once more", x.trouble(), 5);
    }

    /** Each call, not refused, behind one that was: no answer of -2 or false-like kind is a refusal. */
    private static void troubleOfTheLatest() {
        CHECK.says("TROUBLE of the latest call that may be refused");
        String text = Check.rows("dusk 9 pays 7 shuts 4", "mms", "mms", "sss") + ";walker a cow at 2,2 faces north leaves 10"
            + ";walker b left at 0,0 faces north leaves 0";
        for (int call = 0; call < 41; call++) {
            MownMaze x = Check.maze(text);
            x.stand(1, 1);
            x.mark();
            x.mown(9, 9);
            CHECK.due("trouble() ahead of call " + call, x.trouble(), 1);
            make(x, call, text);
            CHECK.due("trouble() behind call " + call, x.trouble(), 0);
        }
    }

    private static void make(MownMaze x, int call, String text) {
        switch (call) {
            case 0: Check.tell(x, text); break;
            case 1: x.mown(2, 2); break;
            case 2: x.beside(2, 2); break;
            case 3: x.parts(); break;
            case 4: x.rings(); break;
            case 5: x.ends(); break;
            case 6: x.steps(8, 8); break;
            case 7: x.longest(); break;
            case 8: x.splits(2, 2); break;
            case 9: x.at(0, 9); break;
            case 10: x.out(0); break;
            case 11: x.ever(0); break;
            case 12: x.ring(0); break;
            case 13: x.meets(0, 1); break;
            case 14: x.shouts(0); break;
            case 15: x.visits(0); break;
            case 16: x.crowd(9); break;
            case 17: x.paid(); break;
            case 18: x.stuck(); break;
            case 19: x.caught(0, 0, 0); break;
            case 20: x.unlike(true); break;
            case 21: x.firstUnlike(true); break;
            case 22: x.clash(); break;
            case 23: x.changes(); break;
            case 24: x.toMow(); break;
            case 25: x.strokes(); break;
            case 26: x.shut(0, 0); break;
            case 27: x.shutWays(); break;
            case 28: x.seen(2, 2); break;
            case 29: x.gatesSeen(); break;
            case 30: x.places(); break;
            case 31: x.place(0); break;
            case 32: x.best(); break;
            case 33: x.mow(2, 2); break;
            case 34: x.stand(0, 0); break;
            case 35: x.week(); break;
            case 36: x.seed(0); break;
            case 37: x.undo(); break;
            case 38: x.mark(); break;
            case 39: x.back(0); break;
            default: x.mow(1, 1); x.mown(9, 9); x.thin(); break;
        }
    }

    private static void whoLeavesTroubleAlone() {
        CHECK.says("(those of which a number is told here)");
        MownMaze x = Check.maze(BARE + ";gate 1,1");
        for (int trouble = 0; trouble <= 1; trouble++) {
            x.mown(trouble * 9, 0);
            x.feed(1, 2, 3, 4, 5);
            x.fault();
            x.where();
            CHECK.due("led(0)", led(x, 0), 0);
            CHECK.due("led(1)", led(x, 1), THROWN);
            x.size(8);
            x.size(13);
            CHECK.due("trouble()", x.trouble(), trouble);
        }
        for (int i = 0; i < 46; i++) {
            x.feed(0, 0, 0, 0, 0);
        }
        CHECK.due("feed() refused", x.feed(0, 0, 0, 0, 0), -1);
        CHECK.due("trouble() behind a feed() refused", x.trouble(), 1);
        x.parts();
        CHECK.due("feed() refused", x.feed(0, 0, 0, 0, 0), -1);
        CHECK.due("trouble() behind a feed() refused", x.trouble(), 0);
    }

    private static void manyCalls() {
        CHECK.says("An object is used for at most 512 calls after it has been made; what later calls answer is free.");
        MownMaze x = new MownMaze();
        Check.tell(x, Check.rows("dusk 9 pays 7 shuts 4", "mm", "mm"));
        for (int call = 5; call < 512; call += 2) {
            CHECK.due("stand() or mow() as call " + call, call / 2 % 2 == 0 ? x.stand(0, 0) : x.mow(0, 0), true);
            CHECK.due("size(10) as call " + (call + 1), x.size(10), Math.min(20, (call - 3) / 2));
        }
    }
}
