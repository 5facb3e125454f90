/** Terms III (the scythe) and promises 25 to 30, sentence by sentence. */
public final class PictureEdgesTest {
    private static final Check CHECK = new Check("PictureEdgesTest");
    private static final String SIZES = "dusk 9 pays 1 shuts 4";

    public static void main(String[] args) {
        cellsToMow();
        fewestRows();
        twelveAtMost();
        asWanted();
        firstOfThem();
        clashes();
        changesOfBoth();
        howManyToMow();
        strokesRefused();
        CHECK.end();
    }

    /** A meadow of two rows of which all stands, with pictures that are told from above. */
    private static MownMaze wanted(String sort, String... rows) {
        String[] standing = new String[rows.length];
        for (int y = 0; y < rows.length; y++) {
            standing[y] = "s".repeat(rows[0].length());
        }
        StringBuilder text = new StringBuilder(Check.rows(SIZES, standing));
        for (String row : rows) {
            text.append(";").append(sort).append(" ").append(row);
        }
        return Check.maze(text.toString());
    }

    private static void cellsToMow() {
        CHECK.says("TO MOW: cells that stand and are wanted MOWN.");
        MownMaze x = Check.maze(Check.rows(SIZES, "mms", "ssm") + ";want msm;want sam;moon aaa;moon mmm");
        CHECK.fine(x, "toMow()", x.toMow(), 1);
        x.stand(0, 0);
        CHECK.fine(x, "toMow() of one more", x.toMow(), 2);
        x.mow(2, 0);
        x.mow(0, 0);
        CHECK.fine(x, "toMow() of none", x.toMow(), 0);
        CHECK.fine(x, "strokes() of none", x.strokes(), 0);
        MownMaze moon = wanted("moon", "mmm", "mmm");
        CHECK.fine(moon, "toMow(): by moonlight is another picture", moon.toMow(), 0);
        MownMaze standing = wanted("want", "sss", "aaa");
        CHECK.fine(standing, "toMow(): wanted so", standing.toMow(), 0);
    }

    private static void strokes(int due, String... rows) {
        MownMaze x = wanted("want", rows);
        CHECK.fine(x, "strokes() of " + String.join("/", rows), x.strokes(), due);
    }

    private static void fewestRows() {
        CHECK.says("STROKES: the fewest rows of cells, each BESIDE the one ahead, by which each of these is mown just once");
        strokes(0, "aa", "aa");
        strokes(1, "ma", "aa");
        strokes(1, "mm", "aa");
        strokes(1, "mm", "am");
        strokes(1, "mm", "mm");
        strokes(2, "ma", "am");
        strokes(2, "aam", "maa");
        strokes(2, "aaam", "mmaa");
        strokes(2, "mam", "aaa");
        strokes(1, "mmm", "aaa");
        strokes(2, "mmm", "ama");
        strokes(2, "mm", "ss", "mm");
        strokes(3, "ama", "mmm", "ama");
        strokes(1, "mmm", "mam", "mmm");
        strokes(1, "mmm", "mmm", "mmm");
        strokes(3, "mmmmm", "amama");
        strokes(2, "mmmmm", "amamm");
        strokes(2, "ammaa", "ammma", "aamaa");
        strokes(2, "mmmmaamm", "aaaaaamm");
        strokes(12, "mamamama", "amamamam", "mamamama");
    }

    private static void twelveAtMost() {
        CHECK.says("for 12 of these at most.");
        strokes(1, "mmmmmm", "mmmmmm");
        strokes(2, "mmmmmmmm", "aaaaaaaa", "mmmmaaaa");
        strokes(6, "mmammamm", "aaaaaaaa", "mmammamm");
        MownMaze x = wanted("want", "mmmmmmm", "mmmmmma");
        CHECK.refused(x, "strokes() of 13", x.strokes(), 3);
        x.mow(6, 0);
        CHECK.fine(x, "strokes() of 12", x.strokes(), 1);
        x.undo();
        CHECK.refused(x, "strokes() of 13 again", x.strokes(), 3);
        MownMaze all = wanted("want", "mmmmmmmm", "mmmmmmmm", "mmmmmmmm", "mmmmmmmm", "mmmmmmmm", "mmmmmmmm");
        CHECK.refused(all, "strokes() of 48", all.strokes(), 3);
        CHECK.fine(all, "toMow() of 48", all.toMow(), 48);
        MownMaze few = wanted("want", "mmaaaaaa", "aaaaaaaa", "aaaaaaaa", "aaaaaaaa", "aaaaaaaa", "aaaaaamm");
        CHECK.fine(few, "strokes() of few", few.strokes(), 2);
        MownMaze again = wanted("want", "mmmmmm", "mmmmmm");
        CHECK.fine(again, "strokes() of twelve", again.strokes(), 1);
        again.mow(1, 0);
        again.mow(1, 1);
        CHECK.fine(again, "strokes() of ten, behind those of twelve", again.strokes(), 2);
    }

    private static void asWanted() {
        CHECK.says("How many cells aren't as wanted (or, by moonlight, as wanted then). NONE: 1 (no MEADOW).");
        MownMaze x = Check.maze(Check.rows(SIZES, "mms", "ssm") + ";want msm;want sma;moon mms;moon ssm");
        CHECK.fine(x, "unlike(false)", x.unlike(false), 3);
        CHECK.fine(x, "unlike(true)", x.unlike(true), 0);
        MownMaze all = Check.maze(Check.rows(SIZES, "ms", "sm") + ";want sm;want ms;moon sm;moon ma");
        CHECK.fine(all, "unlike(false) of all", all.unlike(false), 4);
        CHECK.fine(all, "unlike(true): one is any", all.unlike(true), 3);
        MownMaze free = Check.maze(Check.rows(SIZES, "ms", "sm"));
        CHECK.fine(free, "unlike(false) if nothing is wanted", free.unlike(false), 0);
        CHECK.fine(free, "unlike(true) if nothing is wanted", free.unlike(true), 0);
        MownMaze none = new MownMaze();
        CHECK.refused(none, "unlike(false)", none.unlike(false), 1);
        CHECK.refused(none, "unlike(true)", none.unlike(true), 1);
    }

    private static void firstOfThem() {
        CHECK.says("The first such cell; -2. NONE: 1 (no MEADOW).");
        MownMaze x = Check.maze(Check.rows(SIZES, "ms", "sm") + ";want ms;want ss;moon sa");
        CHECK.fine(x, "firstUnlike(false): the last cell", x.firstUnlike(false), 3);
        CHECK.fine(x, "firstUnlike(true): cell 0", x.firstUnlike(true), 0);
        x.stand(1, 1);
        x.stand(0, 0);
        CHECK.fine(x, "firstUnlike(false): the first of them", x.firstUnlike(false), 0);
        CHECK.fine(x, "firstUnlike(true): none", x.firstUnlike(true), -2);
        MownMaze last = wanted("moon", "aaaaaaaa", "aaaaaaaa", "aaaaaaaa", "aaaaaaaa", "aaaaaaaa", "aaaaaaam");
        CHECK.fine(last, "firstUnlike(true)", last.firstUnlike(true), 47);
        CHECK.fine(last, "firstUnlike(false)", last.firstUnlike(false), -2);
        MownMaze none = new MownMaze();
        CHECK.refused(none, "firstUnlike(false)", none.firstUnlike(false), 1);
        CHECK.refused(none, "firstUnlike(true)", none.firstUnlike(true), 1);
    }

    private static void clashes() {
        CHECK.says("How many cells are wanted MOWN by one picture, standing by the other one. NONE: 1 (no MEADOW).");
        MownMaze x = Check.maze(Check.rows(SIZES, "mmm", "mmm", "mmm") + ";want mmm;want sss;want aaa;moon msa;moon msa;moon msa");
        CHECK.fine(x, "clash(): both ways, any with none", x.clash(), 2);
        MownMaze half = Check.maze(Check.rows(SIZES, "mm", "mm") + ";want mm;want mm;moon ss");
        CHECK.fine(half, "clash(): what isn't told is any", half.clash(), 2);
        MownMaze free = Check.maze(Check.rows(SIZES, "mm", "mm") + ";want ss;want ss");
        CHECK.fine(free, "clash() with no other one", free.clash(), 0);
        MownMaze none = new MownMaze();
        CHECK.refused(none, "clash()", none.clash(), 1);
    }

    private static void changesOfBoth() {
        CHECK.says("How many cells must be changed so that both are shown but for those. NONE: 1 (no MEADOW).");
        MownMaze x = Check.maze(Check.rows(SIZES, "mmm", "mmm", "mmm") + ";want mmm;want sss;want aaa;moon msa;moon msa;moon msa");
        CHECK.fine(x, "changes(): 4, 5 and 7, but not 1 and 3", x.changes(), 3);
        x.stand(1, 1);
        CHECK.fine(x, "changes() of one less", x.changes(), 2);
        x.stand(0, 0);
        CHECK.fine(x, "changes() of one more", x.changes(), 3);
        x.stand(1, 0);
        CHECK.fine(x, "changes(): a clash counts neither way", x.changes(), 3);
        MownMaze free = Check.maze(Check.rows(SIZES, "mm", "ms"));
        CHECK.fine(free, "changes() if nothing is wanted", free.changes(), 0);
        MownMaze none = new MownMaze();
        CHECK.refused(none, "changes()", none.changes(), 1);
    }

    private static void howManyToMow() {
        CHECK.says("TO MOW: how many. NONE: 1 (no MEADOW).");
        MownMaze none = new MownMaze();
        CHECK.refused(none, "toMow()", none.toMow(), 1);
        MownMaze one = wanted("want", "am", "ss");
        CHECK.fine(one, "toMow()", one.toMow(), 1);
    }

    private static void strokesRefused() {
        CHECK.says("STROKES. NONE: 1 (no MEADOW); 3.");
        MownMaze none = new MownMaze();
        CHECK.refused(none, "strokes()", none.strokes(), 1);
        MownMaze many = wanted("want", "mmmmmmmm", "mmmmmaaa");
        CHECK.refused(many, "strokes()", many.strokes(), 3);
        CHECK.due("nothing is changed", many.size(8) == 0 && many.size(10) == 0, true);
    }
}
