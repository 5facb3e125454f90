import java.util.NoSuchElementException;

/** Promises 47 to 49: gates that aren't seen, sizes, trouble. */
public final class SeenTest {
    private static final Check CHECK = new Check("SeenTest");

    public static void main(String[] args) {
        gates();
        sizes();
        troubles();
        CHECK.end();
    }

    /** What led() answers; -9 if it throws. */
    private static int led(MownMaze x, int i) {
        try {
            return x.led(i);
        } catch (NoSuchElementException none) {
            return -9;
        }
    }

    private static void gates() {
        MownMaze x = new MownMaze();
        CHECK.due("led(0) without a meadow", led(x, 0), -9);
        x = Check.maze("meadow wide 4 high 3 dusk 9 pays 1 shuts 4;row mmsm;row msmm;row smmm;gate 2,2;gate 0,0;gate 2,1");
        CHECK.due("led(0): all are seen", led(x, 0), -9);
        x.stand(3, 1);
        CHECK.due("led(0): the gate's number", led(x, 0), 0);
        CHECK.due("led(1)", led(x, 1), -9);
        x.stand(1, 0);
        x.stand(3, 0);
        CHECK.due("led(1)", led(x, 1), 2);
        CHECK.due("led(2)", led(x, 2), -9);
        CHECK.due("led(-1)", led(x, -1), -9);
        CHECK.due("led(MIN)", led(x, Integer.MIN_VALUE), -9);
        CHECK.due("led(MAX)", led(x, Integer.MAX_VALUE), -9);
        x.place(-1);
        led(x, 0);
        led(x, 7);
        CHECK.due("led leaves trouble alone", x.trouble(), 1);
    }

    private static void sizes() {
        MownMaze x = Check.maze("meadow wide 4 high 3 dusk 9 pays 7 shuts 4;row mmsm;row msmm;row smmm;gate 2,2;"
            + "walker a cow at 0,0 faces north leaves 0;walker b cow at 0,0 faces north leaves 0;heard 9 from 0,0");
        x.seed(12);
        x.mow(2, 0);
        x.mark();
        x.feed(1, 2, 3, 4, 5);
        int[] sizes = {4, 3, 9, 7, 1, 2, 1, -2, 10, 12, 1, 1, 20};
        for (int what = 0; what < sizes.length; what++) {
            CHECK.due("size(" + what + ")", x.size(what), sizes[what]);
        }
        x.place(-1);
        for (int what : new int[] {-1, 13, Integer.MIN_VALUE, Integer.MAX_VALUE}) {
            CHECK.due("size(" + what + ")", x.size(what), -1);
        }
        CHECK.due("size leaves trouble alone", x.trouble(), 1);
    }

    private static void troubles() {
        MownMaze x = Check.maze("meadow wide 2 high 2 dusk 9 pays 7 shuts 4;row mm;row mm;"
            + "walker a lot at 0,0 faces north leaves 0");
        CHECK.due("trouble() behind a meadow", x.trouble(), 0);
        x.mown(2, 0);
        CHECK.due("1", x.trouble(), 1);
        x.at(0, 10);
        CHECK.due("2", x.trouble(), 2);
        for (int i = 0; i < 4; i++) {
            x.mark();
        }
        CHECK.due("3", x.trouble(), 3);
        x.meadow(0);
        CHECK.due("4", x.trouble(), 4);
        x.fault();
        x.where();
        x.size(0);
        x.trouble();
        x.feed(0, 0, 0, 0, 0);
        CHECK.due("4 still", x.trouble(), 4);
        x.ever(0);
        CHECK.due("5", x.trouble(), 5);
        x.undo();
        CHECK.due("6", x.trouble(), 6);
        x.firstUnlike(true);
        CHECK.due("-2 is no refusal", x.trouble(), 0);
    }
}
