/** Promises 25 to 30: the pictures that are wanted, and the strokes of the scythe. */
public final class PicturesTest {
    private static final Check CHECK = new Check("PicturesTest");

    public static void main(String[] args) {
        pictures();
        bothPictures();
        nothingWanted();
        strokes();
        CHECK.end();
    }

    private static void pictures() {
        MownMaze x = Check.maze("meadow wide 4 high 3 dusk 1 pays 0 shuts 4;row mmss;row ssss;row mmmm;"
            + "want smma;want mmmm;moon mmss;moon ssss");
        CHECK.fine(x, "unlike(false)", x.unlike(false), 6);
        CHECK.fine(x, "firstUnlike(false)", x.firstUnlike(false), 0);
        CHECK.fine(x, "unlike(true)", x.unlike(true), 0);
        CHECK.fine(x, "firstUnlike(true)", x.firstUnlike(true), -2);
        CHECK.fine(x, "clash()", x.clash(), 6);
        CHECK.fine(x, "changes()", x.changes(), 0);
        CHECK.fine(x, "toMow()", x.toMow(), 5);
        CHECK.fine(x, "strokes()", x.strokes(), 2);
        x.mow(2, 0);
        CHECK.fine(x, "unlike(false)", x.unlike(false), 5);
        CHECK.fine(x, "unlike(true)", x.unlike(true), 1);
        CHECK.fine(x, "firstUnlike(true)", x.firstUnlike(true), 2);
        CHECK.fine(x, "clash() has nothing to do with what is", x.clash(), 6);
        CHECK.fine(x, "toMow()", x.toMow(), 4);
        CHECK.fine(x, "strokes()", x.strokes(), 1);
    }

    private static void bothPictures() {
        MownMaze x = Check.maze("meadow wide 4 high 2 dusk 1 pays 0 shuts 4;row smsm;row mmss;"
            + "want mmaa;want ssaa;moon mama;moon assa");
        CHECK.fine(x, "unlike(false)", x.unlike(false), 3);
        CHECK.fine(x, "unlike(true)", x.unlike(true), 3);
        CHECK.fine(x, "clash()", x.clash(), 0);
        CHECK.fine(x, "changes(): cells of both count once", x.changes(), 4);
        CHECK.fine(x, "toMow(): by the first picture alone", x.toMow(), 1);
    }

    private static void nothingWanted() {
        MownMaze x = Check.maze("meadow wide 2 high 2 dusk 1 pays 0 shuts 4;row ms;row ss");
        CHECK.fine(x, "unlike(false)", x.unlike(false), 0);
        CHECK.fine(x, "firstUnlike(false)", x.firstUnlike(false), -2);
        CHECK.fine(x, "clash()", x.clash(), 0);
        CHECK.fine(x, "changes()", x.changes(), 0);
        CHECK.fine(x, "toMow()", x.toMow(), 0);
        CHECK.fine(x, "strokes()", x.strokes(), 0);
    }

    private static MownMaze wanted(String... rows) {
        int wide = rows[0].length();
        StringBuilder text = new StringBuilder("meadow wide " + wide + " high " + rows.length + " dusk 1 pays 0 shuts 4");
        for (String row : rows) {
            text.append(";row ").append("s".repeat(wide)).append(";want ").append(row);
        }
        return Check.maze(text.toString());
    }

    private static void strokes() {
        MownMaze full = wanted("mmmm", "mmmm", "mmmm");
        CHECK.fine(full, "strokes() of twelve", full.strokes(), 1);
        MownMaze more = wanted("mmmmm", "mmmmm", "mmmaa");
        CHECK.fine(more, "toMow()", more.toMow(), 13);
        CHECK.refused(more, "strokes() of thirteen", more.strokes(), 3);
        more.mow(0, 0);
        CHECK.fine(more, "strokes() of the twelve left", more.strokes(), 1);
        MownMaze cross = wanted("ama", "mmm", "ama");
        CHECK.fine(cross, "strokes() of a cross", cross.strokes(), 3);
        MownMaze round = wanted("mmm", "mam", "mmm");
        CHECK.fine(round, "strokes() of a ring", round.strokes(), 1);
        MownMaze lone = wanted("mamamam", "amamama", "mamamaa", "aaaaama");
        CHECK.fine(lone, "strokes() of lone cells", lone.strokes(), 11);
        MownMaze comb = wanted("mamamama", "mmmmmmma");
        CHECK.fine(comb, "strokes() of a comb", comb.strokes(), 3);
        MownMaze ends = wanted("aam", "mma");
        CHECK.fine(ends, "strokes(): corners do not join", ends.strokes(), 2);
        MownMaze edge = wanted("aaam", "maaa");
        CHECK.fine(edge, "strokes(): rows end", edge.strokes(), 2);
    }
}
