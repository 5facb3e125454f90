/** Terms II and III (walkers) and promises 14 to 24, sentence by sentence. */
public final class WalkerEdgesTest {
    private static final Check CHECK = new Check("WalkerEdgesTest");
    private static final String[] SIDES = {"north", "east", "south", "west"};
    private static final int[] NOBODY = {5, -1, Integer.MIN_VALUE, Integer.MAX_VALUE};
    /** The middle of a meadow of 3 by 3, and the cells beside it, from the north. */
    private static final int MIDDLE = 4;
    private static final int[] ROUND = {1, 5, 7, 3};

    public static void main(String[] args) {
        leaving();
        outAtGates();
        keepingToASide();
        facing();
        goingOnce();
        cows();
        lots();
        draws();
        apart();
        everOut();
        ringsOfWalkers();
        notByLot();
        shoutsOfWalkers();
        cellsByMinutes();
        outs();
        everAnswers();
        ringAnswers();
        meetings();
        shoutAnswers();
        visitsOfWalkers();
        crowds();
        paying();
        stuckOnes();
        catching();
        catchAnswers();
        CHECK.end();
    }

    private static String walker(String name, String kind, String at, String side, int leaves) {
        return ";walker " + name + " " + kind + " at " + at + " faces " + side + " leaves " + leaves;
    }

    private static String dusk(int dusk) {
        return "dusk " + dusk + " pays 3 shuts 4";
    }

    private static void track(MownMaze x, int walker, int from, int... cells) {
        for (int i = 0; i < cells.length; i++) {
            CHECK.fine(x, "at(" + walker + ", " + (from + i) + ")", x.at(walker, from + i), cells[i]);
        }
    }

    /** A meadow of 3 by 3 of which the middle is mown and, by bits, cells beside it. */
    private static String round(int dusk, int bits) {
        char[] cells = "ssssmssss".toCharArray();
        for (int side = 0; side < 4; side++) {
            cells[ROUND[side]] = (bits >> side & 1) == 1 ? 'm' : 's';
        }
        String all = new String(cells);
        return Check.rows(dusk(dusk), all.substring(0, 3), all.substring(3, 6), all.substring(6));
    }

    // ---- terms

    private static void leaving() {
        CHECK.says("A WALKER is at his cell in the minute in which he leaves, and faces as told.");
        for (int leaves : new int[] {0, 1, 4, 5, 6, 99}) {
            MownMaze x = Check.maze(Check.rows(dusk(5), "mm", "mm") + walker("a", "left", "1,1", "north", leaves));
            for (int minute = 0; minute <= 5; minute++) {
                int gone = minute - leaves;
                CHECK.due("at(0, " + minute + ")", x.at(0, minute), gone < 0 ? -2 : new int[] {3, 2, 0, 1, 3, 2}[gone]);
            }
        }
        MownMaze last = Check.maze(Check.rows(dusk(200), "mm", "mm") + walker("a", "left", "1,1", "north", 99));
        track(last, 0, 98, -2, 3, 2);
        track(last, 0, 199, 3, 2);
    }

    private static void outAtGates() {
        CHECK.says("OUT: as soon as he is at a gate, that minute; else each next minute, from his cell to a MOWN one BESIDE it:");
        for (String kind : new String[] {"left", "right", "once", "cow", "lot"}) {
            MownMaze there = Check.maze(Check.rows(dusk(5), "mm", "mm") + ";gate 1,1;noise 0,0" + walker("a", kind, "1,1", "north", 2));
            CHECK.fine(there, "out(0) of one who is at a gate", there.out(0), 2);
            track(there, 0, 0, -2, -2, 3, -2, -2, -2);
            there.stand(1, 1);
            CHECK.fine(there, "out(0) at a gate that stands", there.out(0), 2);
            MownMaze shut = Check.maze(Check.rows(dusk(5), "ms", "ss") + ";gate 1,0;noise 1,0" + walker("a", kind, "0,0", "east", 0));
            CHECK.fine(shut, "out(0): the gate beside him stands", shut.out(0), -2);
            track(shut, 0, 0, 0, 0, 0, 0, 0, 0);
            MownMaze next = Check.maze(Check.rows(dusk(5), "mm", "ss") + ";gate 1,0;noise 1,0" + walker("a", kind, "0,0", "east", 3));
            CHECK.fine(next, "out(0): the gate is beside him", next.out(0), 4);
            track(next, 0, 3, 0, 1, -2);
            MownMaze from = Check.maze(Check.rows(dusk(5), "mm", "ss") + ";gate 1,0;noise 1,0" + walker("a", kind, "1,1", "east", 0));
            CHECK.fine(from, "out(0) from a cell that stands", from.out(0), 1);
        }
    }

    private static void keepingToASide() {
        CHECK.says("left: the first of: to his left, ahead, to his right, back; right: to his right, ahead, to his left, back");
        int[] leftTurns = {3, 0, 1, 2};
        int[] rightTurns = {1, 0, 3, 2};
        for (int bits = 0; bits < 16; bits++) {
            for (int side = 0; side < 4; side++) {
                MownMaze x = Check.maze(round(1, bits) + walker("a", "left", "1,1", SIDES[side], 0)
                    + walker("b", "right", "1,1", SIDES[side], 0));
                CHECK.due("at(0, 1) of " + bits + ", " + SIDES[side], x.at(0, 1), firstOf(bits, side, leftTurns));
                CHECK.due("at(1, 1) of " + bits + ", " + SIDES[side], x.at(1, 1), firstOf(bits, side, rightTurns));
            }
        }
    }

    private static int firstOf(int bits, int side, int[] turns) {
        for (int turn : turns) {
            int to = (side + turn) % 4;
            if ((bits >> to & 1) == 1) {
                return ROUND[to];
            }
        }
        return MIDDLE;
    }

    private static void facing() {
        CHECK.says("he faces then as he went.");
        MownMaze x = Check.maze(round(8, 15) + walker("a", "left", "1,1", "north", 0) + walker("b", "right", "1,1", "north", 0));
        track(x, 0, 0, 4, 3, 4, 1, 4, 5, 4, 7, 4);
        track(x, 1, 0, 4, 5, 4, 1, 4, 3, 4, 7, 4);
        MownMaze stays = Check.maze(round(3, 0) + walker("a", "left", "1,1", "west", 0));
        track(stays, 0, 0, 4, 4, 4, 4);
        CHECK.fine(stays, "ring(0) of one who stays", stays.ring(0), 1);
    }

    private static void goingOnce() {
        CHECK.says("once: the first to the north, east, south, west, where he hasn't been; "
            + "without one back to where he first came into his cell from.");
        for (int bits = 0; bits < 16; bits++) {
            for (int side = 0; side < 4; side++) {
                MownMaze x = Check.maze(round(10, bits) + walker("a", "once", "1,1", SIDES[side], 0));
                int minute = 0;
                for (int to = 0; to < 4; to++) {
                    if ((bits >> to & 1) == 1) {
                        track(x, 0, minute, MIDDLE, ROUND[to]);
                        minute += 2;
                    }
                }
                track(x, 0, minute, MIDDLE, MIDDLE, MIDDLE);
            }
        }
        MownMaze ring = Check.maze(Check.rows(dusk(9), "mm", "mm") + walker("a", "once", "0,0", "west", 0));
        track(ring, 0, 0, 0, 1, 3, 2, 3, 1, 0, 0, 0, 0);
        MownMaze later = Check.maze(Check.rows(dusk(14), "sms", "mmm", "sms") + walker("a", "once", "1,2", "west", 1));
        track(later, 0, 0, -2, 7, 4, 1, 4, 5, 4, 3, 4, 7, 7, 7);
    }

    private static void cows() {
        CHECK.says("cow: of fewest STEPS to the noise, the first to the north, east, south, west, if there is a way; "
            + "there, or without one, he stays.");
        String full = Check.rows(dusk(6), "mmm", "mmm", "mmm");
        String[] corners = {"0,0", "2,0", "0,2", "2,2"};
        int[][] tracks = {{0, 1, 4, 4}, {2, 5, 4, 4}, {6, 3, 4, 4}, {8, 5, 4, 4}};
        for (int i = 0; i < corners.length; i++) {
            MownMaze x = Check.maze(full + ";noise 1,1" + walker("a", "cow", corners[i], "south", 0));
            track(x, 0, 0, tracks[i]);
        }
        for (int side = 0; side < 4; side++) {
            int at = ROUND[side];
            MownMaze x = Check.maze(full + ";noise " + at % 3 + "," + at / 3 + walker("a", "cow", "1,1", "south", 0)
                + walker("b", "cow", at % 3 + "," + at / 3, "south", 0));
            track(x, 0, 0, 4, at, at, at);
            track(x, 1, 0, at, at, at);
        }
        MownMaze none = Check.maze(full + walker("a", "cow", "1,1", "south", 0));
        track(none, 0, 0, 4, 4, 4);
        MownMaze shut = Check.maze(Check.rows(dusk(6), "mms", "mss", "ssm") + ";noise 2,2" + walker("a", "cow", "0,0", "south", 0));
        track(shut, 0, 0, 0, 0, 0);
        shut.mow(2, 1);
        shut.mow(1, 1);
        track(shut, 0, 0, 0, 1, 4, 5, 8, 8, 8);
        shut.stand(2, 2);
        track(shut, 0, 0, 0, 0, 0);
        MownMaze west = Check.maze(full + ";noise 0,1" + walker("a", "cow", "2,1", "east", 0));
        track(west, 0, 0, 5, 4, 3, 3);
        MownMaze south = Check.maze(full + ";noise 0,2" + walker("a", "cow", "1,1", "east", 0));
        track(south, 0, 0, 4, 7, 6, 6);
        MownMaze detour = Check.maze(Check.rows(dusk(6), "mmm", "msm", "msm") + ";noise 2,2" + walker("a", "cow", "0,2", "east", 0));
        track(detour, 0, 0, 6, 3, 0, 1, 2, 5, 8);
    }

    private static int draw(int seed) {
        return (int) ((75L * seed + 74) % 65537);
    }

    private static void lots() {
        CHECK.says("lot: a DRAW mod how many there are, to the north, east, south, west. (None: he stays.)");
        for (int bits = 0; bits < 16; bits++) {
            MownMaze x = Check.maze(round(2, bits) + walker("a", "lot", "1,1", "west", 0));
            for (int seed : new int[] {0, 1, 2, 3, 4, 5, 6, 7, 8, 873, 874, 65535, 65536}) {
                x.seed(seed);
                int nth = Integer.bitCount(bits) == 0 ? -1 : draw(seed) % Integer.bitCount(bits);
                int due = MIDDLE;
                for (int side = 0; side < 4; side++) {
                    if ((bits >> side & 1) == 1 && nth-- == 0) {
                        due = ROUND[side];
                    }
                }
                CHECK.due("at(0, 1) of " + bits + " by " + seed, x.at(0, 1), due);
                CHECK.due("at(0, 2) of " + bits + " by " + seed, x.at(0, 2), MIDDLE);
            }
        }
    }

    private static void draws() {
        CHECK.says("A DRAW: SEED becomes (75 times SEED and 74) mod 65,537; each by lot has his own SEED, "
            + "that of the MEADOW and his number (mod 65,537) at first.");
        String text = Check.rows(dusk(30), "mmm", "sss");
        for (int i = 0; i < 5; i++) {
            text += walker("" + (char) ('a' + i), "lot", "0,0", "west", i);
        }
        MownMaze x = Check.maze(text);
        for (int seed : new int[] {0, 1, 872, 873, 65533, 65536}) {
            x.seed(seed);
            for (int walker : new int[] {0, 1, 4}) {
                int own = (seed + walker) % 65537;
                int cell = 0;
                for (int minute = walker; minute <= 30; minute += 3) {
                    CHECK.due("at(" + walker + ", " + minute + ") by " + seed, x.at(walker, minute), cell);
                    for (int i = 0; i < 3; i++) {
                        own = draw(own);
                        cell = cell == 1 ? (own % 2 == 0 ? 2 : 0) : 1;
                    }
                }
            }
            CHECK.due("size(9): the meadow's own stays", x.size(9), seed);
        }
    }

    private static void apart() {
        CHECK.says("Walkers have nothing to do with one another.");
        String alone = Check.rows(dusk(9), "mmm", "sss") + walker("a", "left", "0,0", "east", 0);
        MownMaze x = Check.maze(alone);
        MownMaze y = Check.maze(alone + walker("b", "left", "1,0", "west", 0) + walker("c", "once", "2,0", "west", 0)
            + walker("d", "lot", "1,0", "west", 0) + walker("e", "cow", "1,0", "west", 0));
        for (int minute = 0; minute <= 9; minute++) {
            CHECK.due("at(0, " + minute + ")", y.at(0, minute), x.at(0, minute));
        }
        track(y, 0, 0, 0, 1, 2, 1, 0);
        track(y, 1, 0, 1, 0, 1, 2, 1);
        track(y, 2, 0, 2, 1, 0, 1, 2, 2);
    }

    private static void everOut() {
        CHECK.says("EVER: whether one is OUT sometime, dusk or not");
        String way = Check.rows(dusk(1), "mmmm", "ssss") + ";gate 3,0;noise 3,0";
        MownMaze x = Check.maze(way + walker("a", "left", "0,0", "north", 0) + walker("b", "right", "0,0", "north", 99)
            + walker("c", "once", "0,0", "north", 1) + walker("d", "cow", "0,0", "north", 2) + walker("e", "left", "3,0", "north", 99));
        for (int walker = 0; walker < 5; walker++) {
            CHECK.fine(x, "out(" + walker + ") till dusk", x.out(walker), -2);
            CHECK.fine(x, "ever(" + walker + ")", x.ever(walker), 1);
        }
        x.stand(2, 0);
        for (int walker = 0; walker < 4; walker++) {
            CHECK.fine(x, "ever(" + walker + ") without a way", x.ever(walker), 0);
        }
        CHECK.fine(x, "ever(4) at a gate", x.ever(4), 1);
        MownMaze comb = Check.maze(Check.rows(dusk(1), "mmmmmmmm", "msmsmsms", "msmsmsms", "msmsmsms", "msmsmsms", "msmsmsms")
            + ";gate 7,0" + walker("a", "right", "0,5", "south", 0) + walker("b", "left", "0,5", "south", 0)
            + walker("c", "once", "6,5", "south", 0));
        CHECK.fine(comb, "ever(0) by all teeth", comb.ever(0), 1);
        CHECK.fine(comb, "ever(1)", comb.ever(1), 1);
        CHECK.fine(comb, "ever(2)", comb.ever(2), 1);
    }

    private static void ringsOfWalkers() {
        CHECK.says("RING: if not, how many minutes go by, at last, till he is again in the same cell, facing so "
            + "(once, cow: 1, as he stays).");
        MownMaze two = Check.maze(Check.rows(dusk(1), "mm", "ss") + walker("a", "left", "0,0", "north", 0)
            + walker("b", "right", "1,0", "south", 99) + walker("c", "once", "0,0", "north", 0)
            + walker("d", "cow", "0,0", "north", 0) + ";noise 1,0");
        CHECK.fine(two, "ring(0) there and back", two.ring(0), 2);
        CHECK.fine(two, "ring(1) there and back", two.ring(1), 2);
        CHECK.fine(two, "ring(2) once", two.ring(2), 1);
        CHECK.fine(two, "ring(3) of a cow", two.ring(3), 1);
        MownMaze cross = Check.maze(round(1, 15) + walker("a", "left", "1,1", "north", 0) + walker("b", "right", "0,0", "north", 0));
        CHECK.fine(cross, "ring(0): facing otherwise is another", cross.ring(0), 8);
        CHECK.fine(cross, "ring(1) behind a start that stands", cross.ring(1), 8);
        MownMaze tail = Check.maze(Check.rows(dusk(1), "mms", "mmm", "sss") + walker("a", "right", "2,1", "east", 0)
            + walker("b", "left", "2,1", "east", 0));
        CHECK.fine(tail, "ring(0) with the tail", tail.ring(0), 6);
        CHECK.fine(tail, "ring(1) with the tail", tail.ring(1), 6);
        MownMaze inside = Check.maze(Check.rows(dusk(1), "mmm", "mmm", "mmm") + walker("a", "left", "1,1", "north", 0)
            + walker("b", "right", "0,0", "south", 0) + walker("c", "left", "0,0", "south", 0));
        CHECK.fine(inside, "ring(0) of four", inside.ring(0), 4);
        CHECK.fine(inside, "ring(1)", inside.ring(1), 8);
        CHECK.fine(inside, "ring(2)", inside.ring(2), 8);
        MownMaze comb = Check.maze(Check.rows(dusk(1), "mmmmmmmm", "msmsmsms", "msmsmsms", "msmsmsms", "msmsmsms", "msmsmsms")
            + walker("a", "right", "0,5", "south", 0) + walker("b", "once", "0,5", "south", 0));
        CHECK.fine(comb, "ring(0) of a comb", comb.ring(0), 54);
        CHECK.fine(comb, "ring(1) of a comb", comb.ring(1), 1);
    }

    private static void notByLot() {
        CHECK.says("Both not by lot.");
        MownMaze x = Check.maze(Check.rows(dusk(1), "mm", "mm") + ";gate 0,0" + walker("a", "lot", "1,1", "north", 0)
            + walker("b", "lot", "0,0", "north", 0));
        for (int walker = 0; walker < 2; walker++) {
            CHECK.refused(x, "ever(" + walker + ")", x.ever(walker), 5);
            CHECK.refused(x, "ring(" + walker + ")", x.ring(walker), 5);
        }
    }

    private static void shoutsOfWalkers() {
        CHECK.says("SHOUTS of a walker: the minute in which he is OUT (dusk, if he isn't till then) "
            + "less that in which he leaves, 0 at least.");
        String way = Check.rows(dusk(5), "mmms", "sssm") + ";gate 2,0";
        int[] leaves = {0, 3, 4, 5, 6};
        int[] shouts = {2, 2, 1, 0, 0};
        String free = way;
        String shut = way;
        for (int i = 0; i < 5; i++) {
            free += walker("" + (char) ('a' + i), "left", "0,0", "north", leaves[i]);
            shut += walker("" + (char) ('a' + i), "left", "3,1", "north", leaves[i]);
        }
        MownMaze x = Check.maze(free);
        MownMaze y = Check.maze(shut);
        for (int i = 0; i < 5; i++) {
            CHECK.fine(x, "shouts(" + i + ")", x.shouts(i), shouts[i]);
            CHECK.fine(y, "shouts(" + i + ") of one who isn't out", y.shouts(i), Math.max(0, 5 - leaves[i]));
        }
        MownMaze there = Check.maze(way + walker("a", "left", "2,0", "north", 4));
        CHECK.fine(there, "shouts(0) at a gate", there.shouts(0), 0);
        CHECK.says("PAID: pays times all SHOUTS together.");
        CHECK.fine(x, "paid()", x.paid(), 3 * 5);
        CHECK.fine(y, "paid()", y.paid(), 3 * (5 + 2 + 1));
        String most = Check.rows("dusk 200 pays 99 shuts 4", "mm", "mm");
        for (int i = 0; i < 5; i++) {
            most += walker("" + (char) ('a' + i), "left", "0,0", "north", 0);
        }
        MownMaze rich = Check.maze(most);
        CHECK.fine(rich, "paid() at most", rich.paid(), 99000);
        MownMaze poor = Check.maze(most.replace("pays 99", "pays 0"));
        CHECK.fine(poor, "paid() if nothing is paid", poor.paid(), 0);
    }

    // ---- promises

    private static void cellsByMinutes() {
        CHECK.says("The cell of a walker in a minute (0 up to dusk); -2 ahead of leaving, or behind the minute in which he is OUT. NONE: 1; 2.");
        MownMaze x = Check.maze(Check.rows(dusk(4), "mmm", "sss") + ";gate 2,0" + walker("a", "left", "0,0", "north", 1)
            + walker("b", "left", "0,0", "north", 0) + walker("c", "left", "0,0", "north", 4));
        track(x, 0, 0, -2, 0, 1, 2, -2);
        track(x, 1, 0, 0, 1, 2, -2, -2);
        track(x, 2, 0, -2, -2, -2, -2, 0);
        for (int minute : new int[] {-1, 5, 6, 201, Integer.MIN_VALUE, Integer.MAX_VALUE}) {
            CHECK.refused(x, "at(0, " + minute + ")", x.at(0, minute), 2);
            CHECK.refused(x, "at(3, " + minute + "): no walker, either", x.at(3, minute), 1);
        }
        for (int walker : new int[] {3, 4, 5, -1, Integer.MIN_VALUE, Integer.MAX_VALUE}) {
            CHECK.refused(x, "at(" + walker + ", 0)", x.at(walker, 0), 1);
        }
        MownMaze least = Check.maze(Check.rows(dusk(1), "mm", "ss") + walker("a", "left", "0,0", "north", 0));
        track(least, 0, 0, 0, 1);
        CHECK.refused(least, "at(0, 2)", least.at(0, 2), 2);
        MownMaze most = Check.maze(Check.rows(dusk(200), "mm", "ss") + walker("a", "left", "0,0", "north", 0));
        track(most, 0, 199, 1, 0);
        CHECK.refused(most, "at(0, 201)", most.at(0, 201), 2);
        MownMaze none = new MownMaze();
        CHECK.refused(none, "at(0, -1) without a meadow", none.at(0, -1), 1);
    }

    private static void nobody(MownMaze x) {
        for (int walker : NOBODY) {
            CHECK.refused(x, "out(" + walker + ")", x.out(walker), 1);
            CHECK.refused(x, "ever(" + walker + ")", x.ever(walker), 1);
            CHECK.refused(x, "ring(" + walker + ")", x.ring(walker), 1);
            CHECK.refused(x, "shouts(" + walker + ")", x.shouts(walker), 1);
            CHECK.refused(x, "visits(" + walker + ")", x.visits(walker), 1);
            CHECK.refused(x, "meets(" + walker + ", 0)", x.meets(walker, 0), 1);
            CHECK.refused(x, "meets(0, " + walker + ")", x.meets(0, walker), 1);
            CHECK.refused(x, "caught(" + walker + ", 0, 0)", x.caught(walker, 0, 0), 1);
        }
    }

    private static void outs() {
        CHECK.says("The minute in which he is OUT; -2 if not till dusk. NONE: 1.");
        for (int dusk = 1; dusk <= 4; dusk++) {
            MownMaze x = Check.maze(Check.rows(dusk(dusk), "mmm", "sss") + ";gate 2,0" + walker("a", "left", "0,0", "north", 1));
            CHECK.fine(x, "out(0) till " + dusk, x.out(0), dusk >= 3 ? 3 : -2);
            CHECK.refused(x, "out(1)", x.out(1), 1);
        }
        MownMaze none = Check.maze(Check.rows(dusk(5), "mm", "mm"));
        CHECK.refused(none, "out(0) without walkers", none.out(0), 1);
        nobody(new MownMaze());
        nobody(none);
        nobody(Check.maze(Check.rows(dusk(5), "mm", "mm") + walker("a", "left", "0,0", "north", 1)
            + walker("b", "left", "0,0", "north", 1) + walker("c", "left", "0,0", "north", 1)
            + walker("d", "left", "0,0", "north", 1) + walker("e", "left", "0,0", "north", 1)));
    }

    private static void everAnswers() {
        CHECK.says("EVER: 1, 0. NONE: 1; 5 (by lot).");
        MownMaze x = Check.maze(Check.rows(dusk(5), "mm", "ms") + ";gate 0,1" + walker("a", "left", "0,0", "north", 1)
            + walker("b", "left", "1,1", "south", 1) + walker("c", "lot", "0,0", "north", 1)
            + walker("d", "cow", "0,0", "north", 1));
        CHECK.fine(x, "ever(0)", x.ever(0), 1);
        CHECK.fine(x, "ever(1)", x.ever(1), 1);
        CHECK.refused(x, "ever(2)", x.ever(2), 5);
        CHECK.fine(x, "ever(3)", x.ever(3), 0);
        CHECK.refused(x, "ever(4)", x.ever(4), 1);
        CHECK.refused(x, "ever(-1)", x.ever(-1), 1);
    }

    private static void ringAnswers() {
        CHECK.says("RING. NONE: 1; 5 (by lot); 6 (he is OUT sometime).");
        MownMaze x = Check.maze(Check.rows(dusk(1), "mmm", "sss") + ";gate 2,0" + walker("a", "left", "0,0", "north", 99)
            + walker("b", "left", "2,0", "south", 1) + walker("c", "lot", "2,0", "north", 1)
            + walker("d", "cow", "0,0", "north", 1));
        CHECK.refused(x, "ring(0): behind dusk, but sometime", x.ring(0), 6);
        CHECK.refused(x, "ring(1): at once", x.ring(1), 6);
        CHECK.refused(x, "ring(2)", x.ring(2), 5);
        CHECK.fine(x, "ring(3)", x.ring(3), 1);
        CHECK.refused(x, "ring(4)", x.ring(4), 1);
        CHECK.refused(x, "ring(-1)", x.ring(-1), 1);
    }

    private static void meetings() {
        CHECK.says("The first minute in which two are in one cell, till dusk; -2. NONE: 1 (unlike).");
        String way = "mmmmm";
        for (int dusk = 1; dusk <= 3; dusk++) {
            MownMaze x = Check.maze(Check.rows(dusk(dusk), way, "sssss") + walker("a", "left", "0,0", "east", 0)
                + walker("b", "left", "4,0", "west", 0) + walker("c", "left", "3,0", "west", 0));
            CHECK.fine(x, "meets(0, 1) till " + dusk, x.meets(0, 1), dusk >= 2 ? 2 : -2);
            CHECK.fine(x, "meets(1, 0) till " + dusk, x.meets(1, 0), dusk >= 2 ? 2 : -2);
            CHECK.fine(x, "meets(0, 2): they pass each other", x.meets(0, 2), -2);
            CHECK.refused(x, "meets(0, 0)", x.meets(0, 0), 1);
            CHECK.refused(x, "meets(2, 2)", x.meets(2, 2), 1);
            CHECK.refused(x, "meets(0, 3)", x.meets(0, 3), 1);
            CHECK.refused(x, "meets(3, 3)", x.meets(3, 3), 1);
        }
        String gate = Check.rows(dusk(9), "mmm", "sss") + ";gate 2,0" + walker("a", "left", "0,0", "east", 0);
        MownMaze same = Check.maze(gate + walker("b", "left", "2,0", "east", 2) + walker("c", "left", "2,0", "east", 3)
            + walker("d", "left", "2,0", "east", 1) + walker("e", "left", "0,0", "west", 0));
        CHECK.fine(same, "meets(0, 1) in the minute of both", same.meets(0, 1), 2);
        CHECK.fine(same, "meets(0, 2): he is out ahead", same.meets(0, 2), -2);
        CHECK.fine(same, "meets(0, 3): the other one is", same.meets(0, 3), -2);
        CHECK.fine(same, "meets(0, 4) at once", same.meets(0, 4), 0);
        MownMaze away = Check.maze(Check.rows(dusk(3), "mm", "ss") + walker("a", "cow", "0,0", "east", 0)
            + walker("b", "cow", "0,0", "east", 3) + walker("c", "cow", "0,0", "east", 4) + walker("d", "cow", "0,0", "east", 5));
        CHECK.fine(away, "meets(0, 1) as he leaves, at dusk", away.meets(0, 1), 3);
        CHECK.fine(away, "meets(0, 2): he leaves behind dusk", away.meets(0, 2), -2);
        CHECK.fine(away, "meets(2, 3): both do", away.meets(2, 3), -2);
    }

    private static void shoutAnswers() {
        CHECK.says("SHOUTS. NONE: 1.");
        MownMaze x = Check.maze(Check.rows(dusk(9), "mm", "ss") + walker("a", "left", "0,0", "east", 9)
            + walker("b", "left", "0,0", "east", 8));
        CHECK.fine(x, "shouts(0)", x.shouts(0), 0);
        CHECK.fine(x, "shouts(1)", x.shouts(1), 1);
        CHECK.refused(x, "shouts(2)", x.shouts(2), 1);
        CHECK.refused(x, "shouts(-1)", x.shouts(-1), 1);
    }

    private static void visitsOfWalkers() {
        CHECK.says("In how many unlike cells one is, till OUT or dusk. NONE: 1.");
        MownMaze x = Check.maze(Check.rows(dusk(4), "mmmm", "ssss") + ";gate 3,0" + walker("a", "left", "0,0", "east", 0)
            + walker("b", "left", "0,0", "east", 2) + walker("c", "left", "0,0", "east", 4)
            + walker("d", "left", "0,0", "east", 5) + walker("e", "left", "3,0", "east", 0));
        int[] visits = {4, 3, 1, 0, 1};
        for (int walker = 0; walker < 5; walker++) {
            CHECK.fine(x, "visits(" + walker + ")", x.visits(walker), visits[walker]);
        }
        MownMaze again = Check.maze(Check.rows(dusk(200), "mm", "ss") + walker("a", "left", "0,0", "east", 0)
            + walker("b", "cow", "1,1", "east", 0));
        CHECK.fine(again, "visits(0): each but once", again.visits(0), 2);
        CHECK.fine(again, "visits(1) of one who stays", again.visits(1), 1);
        CHECK.refused(again, "visits(2)", again.visits(2), 1);
    }

    private static void crowds() {
        CHECK.says("How many walkers are there in a minute (0 up to dusk). NONE: 1 (no MEADOW); 2.");
        MownMaze x = Check.maze(Check.rows(dusk(4), "mmm", "sss") + ";gate 2,0" + walker("a", "left", "0,0", "east", 0)
            + walker("b", "left", "0,0", "east", 1) + walker("c", "left", "0,0", "east", 4)
            + walker("d", "left", "0,0", "east", 5) + walker("e", "left", "2,0", "east", 1));
        int[] crowds = {1, 3, 2, 1, 1};
        for (int minute = 0; minute <= 4; minute++) {
            CHECK.fine(x, "crowd(" + minute + ")", x.crowd(minute), crowds[minute]);
        }
        for (int minute : new int[] {-1, 5, 200, Integer.MIN_VALUE, Integer.MAX_VALUE}) {
            CHECK.refused(x, "crowd(" + minute + ")", x.crowd(minute), 2);
        }
        MownMaze none = new MownMaze();
        CHECK.refused(none, "crowd(0) without a meadow", none.crowd(0), 1);
        CHECK.refused(none, "crowd(-1) without a meadow", none.crowd(-1), 1);
        MownMaze nobody = Check.maze(Check.rows(dusk(1), "mm", "ss"));
        CHECK.fine(nobody, "crowd(0) of nobody", nobody.crowd(0), 0);
        CHECK.refused(nobody, "crowd(2) of nobody", nobody.crowd(2), 2);
    }

    private static void paying() {
        CHECK.says("PAID. NONE: 1 (no MEADOW).");
        MownMaze none = new MownMaze();
        CHECK.refused(none, "paid() without a meadow", none.paid(), 1);
        MownMaze nobody = Check.maze(Check.rows(dusk(9), "mm", "ss"));
        CHECK.fine(nobody, "paid() for nobody", nobody.paid(), 0);
        MownMaze late = Check.maze(Check.rows(dusk(9), "mm", "ss") + walker("a", "left", "0,0", "east", 99)
            + walker("b", "left", "0,0", "east", 8));
        CHECK.fine(late, "paid(): who leaves behind dusk takes nothing off", late.paid(), 3);
    }

    private static void stuckOnes() {
        CHECK.says("Walkers that aren't OUT till dusk, as bits. NONE: 1 (no MEADOW).");
        String way = Check.rows(dusk(3), "mmm", "sss") + ";gate 2,0";
        MownMaze x = Check.maze(way + walker("a", "left", "0,0", "east", 2) + walker("b", "left", "0,0", "east", 1)
            + walker("c", "left", "2,0", "east", 3) + walker("d", "left", "2,0", "east", 4) + walker("e", "cow", "0,0", "east", 0));
        CHECK.fine(x, "stuck()", x.stuck(), 1 + 8 + 16);
        x.stand(1, 0);
        CHECK.fine(x, "stuck()", x.stuck(), 1 + 2 + 8 + 16);
        MownMaze all = Check.maze(Check.rows(dusk(3), "mmm", "sss") + walker("a", "left", "0,0", "east", 0)
            + walker("b", "left", "0,0", "east", 0) + walker("c", "left", "0,0", "east", 0)
            + walker("d", "left", "0,0", "east", 0) + walker("e", "left", "0,0", "east", 0));
        CHECK.fine(all, "stuck() of all", all.stuck(), 31);
        MownMaze nobody = Check.maze(way);
        CHECK.fine(nobody, "stuck() of nobody", nobody.stuck(), 0);
        MownMaze none = new MownMaze();
        CHECK.refused(none, "stuck() without a meadow", none.stuck(), 1);
    }

    private static void catching() {
        CHECK.says("CAUGHT: one goes from a MOWN cell in minute 0, each minute to a cell BESIDE (over MOWN ones), or stays: "
            + "the first minute in which he can be where a walker is, who has left and isn't OUT ahead of it, till dusk.");
        for (int dusk = 1; dusk <= 3; dusk++) {
            MownMaze x = Check.maze(Check.rows(dusk(dusk), "mmmmm", "sssss") + walker("a", "cow", "0,0", "east", 0)
                + walker("b", "left", "0,0", "east", 0) + walker("c", "cow", "4,1", "east", 0)
                + walker("d", "cow", "0,0", "east", 3));
            CHECK.fine(x, "caught(0, 0, 0): he is there", x.caught(0, 0, 0), 0);
            CHECK.fine(x, "caught(0, 2, 0) till " + dusk, x.caught(0, 2, 0), dusk >= 2 ? 2 : -2);
            CHECK.fine(x, "caught(0, 3, 0) till " + dusk, x.caught(0, 3, 0), dusk >= 3 ? 3 : -2);
            CHECK.fine(x, "caught(1, 1, 0): by staying", x.caught(1, 1, 0), 1);
            CHECK.fine(x, "caught(1, 3, 0) till " + dusk, x.caught(1, 3, 0), dusk >= 2 ? 2 : -2);
            CHECK.fine(x, "caught(2, 4, 0): he is where it stands", x.caught(2, 4, 0), -2);
            CHECK.fine(x, "caught(3, 0, 0): as he leaves, till " + dusk, x.caught(3, 0, 0), dusk >= 3 ? 3 : -2);
        }
        String gate = Check.rows(dusk(9), "mmmmmm", "ssssss") + ";gate 2,0" + walker("a", "left", "0,0", "east", 0);
        MownMaze out = Check.maze(gate);
        CHECK.fine(out, "caught(0, 4, 0): as he is out", out.caught(0, 4, 0), 2);
        CHECK.fine(out, "caught(0, 5, 0): a minute late", out.caught(0, 5, 0), -2);
        CHECK.fine(out, "caught(0, 2, 0): waited for on the way", out.caught(0, 2, 0), 1);
        MownMaze round = Check.maze(Check.rows(dusk(9), "mmm", "msm", "mmm") + walker("a", "cow", "0,1", "east", 0));
        CHECK.fine(round, "caught(0, 2, 1): not over what stands", round.caught(0, 2, 1), 4);
        round.stand(1, 0);
        round.stand(1, 2);
        CHECK.fine(round, "caught(0, 2, 1): no way", round.caught(0, 2, 1), -2);
    }

    private static void catchAnswers() {
        CHECK.says("CAUGHT; -2 if never. NONE: 1 (walker, cell); 5 (that cell stands).");
        MownMaze x = Check.maze(Check.rows(dusk(9), "mms", "sss") + walker("a", "cow", "0,0", "east", 0));
        CHECK.fine(x, "caught(0, 1, 0)", x.caught(0, 1, 0), 1);
        CHECK.refused(x, "caught(0, 2, 0)", x.caught(0, 2, 0), 5);
        CHECK.refused(x, "caught(1, 2, 0): no walker, either", x.caught(1, 2, 0), 1);
        int[][] beyond = {{3, 0}, {-1, 1}, {0, 2}, {0, -1}, {Integer.MIN_VALUE, 0}, {0, Integer.MAX_VALUE}};
        for (int[] at : beyond) {
            CHECK.refused(x, "caught(0, " + at[0] + ", " + at[1] + ")", x.caught(0, at[0], at[1]), 1);
        }
        x.stand(0, 0);
        CHECK.fine(x, "caught(0, 1, 0): never", x.caught(0, 1, 0), -2);
        CHECK.refused(x, "caught(0, 0, 0): his own cell stands", x.caught(0, 0, 0), 5);
    }
}
