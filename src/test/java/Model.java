import java.util.ArrayList;
import java.util.Arrays;
import java.util.HashSet;
import java.util.LinkedHashMap;
import java.util.List;
import java.util.Map;
import java.util.NoSuchElementException;
import java.util.Set;
import java.util.TreeSet;

/**
 * The document once more, written as plainly as it goes and by other means than the class: sets of
 * cells, all ways by Floyd and Warshall, lines by patterns. ModelTest holds the two against each other.
 */
final class Model {
    private static final List<String> SIDES = List.of("north", "east", "south", "west");
    private static final List<String> SORTS =
        List.of("meadow", "row", "want", "moon", "gate", "noise", "heard", "walker");
    private static final Map<String, String> PATTERNS = Map.of(
        "meadow", "wide W2-8 high W2-6 dusk W1-200 pays W0-99 shuts W1-4",
        "row", "ROW", "want", "ROW", "moon", "ROW",
        "gate", "X , Y", "noise", "X , Y",
        "heard", "W0-60 from X , Y",
        "walker", "NAME KIND at X , Y faces SIDE leaves W0-99");

    private static final class Walker {
        String name;
        String kind;
        String side;
        int cell;
        int leaves;
    }

    private static final class Told {
        int wide;
        int high;
        int dusk;
        int pays;
        int shuts;
        Map<String, List<String>> pictures = new LinkedHashMap<>();
        List<Integer> gates = new ArrayList<>();
        List<int[]> heard = new ArrayList<>();
        List<Walker> walkers = new ArrayList<>();
        int noise = -2;
        boolean laid;
    }

    private static final class Fault extends Exception {
        private static final long serialVersionUID = 1;
        final int number;
        final int place;

        Fault(int number, int place) {
            this.number = number;
            this.place = place;
        }
    }

    private static final class State {
        final TreeSet<Integer> cells;
        final int seed;

        State(Set<Integer> cells, int seed) {
            this.cells = new TreeSet<>(cells);
            this.seed = seed;
        }
    }

    private String tape = "";
    private Told m;
    private TreeSet<Integer> mown = new TreeSet<>();
    private int seed;
    private List<State> acts = new ArrayList<>();
    private List<State> marks = new ArrayList<>();
    private int trouble;
    private int fault;
    private int place;

    // ---- the meadow

    public int feed(int a, int b, int c, int d, int e) {
        if (tape.length() + 20 > 900) {
            return -1;
        }
        for (int v : new int[] {a, b, c, d, e}) {
            for (int k = 3; k >= 0; k--) {
                tape += (char) ((v >> (8 * k)) & 255);
            }
        }
        return tape.length();
    }

    public int meadow(int n) {
        if (n < 0 || n > tape.length()) {
            return no(2);
        }
        String text = tape.substring(0, n);
        tape = "";
        try {
            m = parse(text);
        } catch (Fault f) {
            fault = f.number;
            place = f.place;
            return no(4);
        }
        fault = 0;
        mown.clear();
        for (int y = 0; y < m.high; y++) {
            for (int x = 0; x < m.wide; x++) {
                if (m.pictures.get("row").get(y).charAt(x) == 'm') {
                    mown.add(y * m.wide + x);
                }
            }
        }
        seed = 0;
        acts.clear();
        marks.clear();
        return yes(mown.size());
    }

    public int fault() {
        return fault;
    }

    public int where() {
        return trouble == 4 ? place : -1;
    }

    /** Tokens as text, and their places; what is no token stands as "?"; the end as "". */
    private static void split(String text, List<String> tokens, List<Integer> places) {
        java.util.regex.Matcher found = java.util.regex.Pattern.compile("[a-z]+|[0-9]+|[^ ]", java.util.regex.Pattern.DOTALL).matcher(text);
        while (found.find()) {
            String t = found.group();
            boolean good = t.matches("[a-z]{1,8}|[0-9]{1,3}|[;,]");
            tokens.add(good ? t : "?");
            places.add(found.start());
        }
        tokens.add("");
        places.add(text.length());
    }

    private static Told parse(String text) throws Fault {
        List<String> tokens = new ArrayList<>();
        List<Integer> places = new ArrayList<>();
        split(text, tokens, places);
        Told told = new Told();
        int at = 0;
        while (true) {
            String sort = tokens.get(at);
            if (!SORTS.contains(sort)) {
                throw new Fault(1, places.get(at));
            }
            firstWord(told, sort, places.get(at));
            at++;
            List<String> got = new ArrayList<>();
            for (String pattern : PATTERNS.get(sort).split(" ")) {
                String token = tokens.get(at);
                check(told, sort, pattern, token, got, places.get(at));
                got.add(token);
                at++;
            }
            keep(told, sort, got);
            if (tokens.get(at).isEmpty()) {
                if (lines(told, "row") < told.high) {
                    throw new Fault(6, places.get(at));
                }
                return told;
            }
            if (!tokens.get(at).equals(";")) {
                throw new Fault(1, places.get(at));
            }
            at++;
        }
    }

    private static int lines(Told told, String picture) {
        return told.pictures.getOrDefault(picture, List.of()).size();
    }

    private static void firstWord(Told told, String sort, int where) throws Fault {
        boolean again = sort.equals("meadow") && told.laid || sort.equals("noise") && told.noise >= 0;
        if (again) {
            throw new Fault(3, where);
        }
        if (!sort.equals("meadow") && !told.laid) {
            throw new Fault(6, where);
        }
        boolean full = PATTERNS.get(sort).equals("ROW") && lines(told, sort) == told.high
            || sort.equals("gate") && told.gates.size() == 4
            || sort.equals("heard") && told.heard.size() == 5
            || sort.equals("walker") && told.walkers.size() == 5;
        if (full) {
            throw new Fault(5, where);
        }
    }

    private static void check(Told told, String sort, String pattern, String token, List<String> got, int where) throws Fault {
        boolean word = token.matches("[a-z]+");
        boolean whole = token.matches("[0-9]+");
        if (pattern.matches("[XY]|W.*")) {
            if (!whole) {
                throw new Fault(1, where);
            }
            int low = 0;
            int top = pattern.equals("X") ? told.wide - 1 : told.high - 1;
            if (pattern.startsWith("W")) {
                low = Integer.parseInt(pattern.substring(1, pattern.indexOf('-')));
                top = Integer.parseInt(pattern.substring(pattern.indexOf('-') + 1));
            }
            int value = Integer.parseInt(token);
            if (value < low || value > top) {
                throw new Fault(4, where);
            }
            if (sort.equals("gate") && pattern.equals("Y")
                && told.gates.contains(value * told.wide + Integer.parseInt(got.get(0)))) {
                throw new Fault(3, where);
            }
        } else if (pattern.equals("ROW")) {
            if (!word) {
                throw new Fault(1, where);
            }
            if (token.length() != told.wide || !token.matches(sort.equals("row") ? "[ms]*" : "[msa]*")) {
                throw new Fault(7, where);
            }
        } else if (pattern.equals("NAME")) {
            if (!word || SORTS.contains(token)) {
                throw new Fault(1, where);
            }
            for (Walker w : told.walkers) {
                if (w.name.equals(token)) {
                    throw new Fault(3, where);
                }
            }
        } else {
            String allowed = pattern.equals("KIND") ? "left|right|once|cow|lot"
                : pattern.equals("SIDE") ? String.join("|", SIDES) : pattern;
            if (!token.matches(allowed)) {
                throw new Fault(1, where);
            }
        }
    }

    private static void keep(Told told, String sort, List<String> got) {
        List<Integer> numbers = new ArrayList<>();
        for (String token : got) {
            if (token.matches("[0-9]+")) {
                numbers.add(Integer.parseInt(token));
            }
        }
        switch (sort) {
            case "meadow":
                told.wide = numbers.get(0);
                told.high = numbers.get(1);
                told.dusk = numbers.get(2);
                told.pays = numbers.get(3);
                told.shuts = numbers.get(4);
                told.laid = true;
                break;
            case "gate":
                told.gates.add(numbers.get(1) * told.wide + numbers.get(0));
                break;
            case "noise":
                told.noise = numbers.get(1) * told.wide + numbers.get(0);
                break;
            case "heard":
                told.heard.add(new int[] {numbers.get(0), numbers.get(2) * told.wide + numbers.get(1)});
                break;
            case "walker":
                Walker w = new Walker();
                w.name = got.get(0);
                w.kind = got.get(1);
                w.cell = numbers.get(1) * told.wide + numbers.get(0);
                w.side = got.get(7);
                w.leaves = numbers.get(2);
                told.walkers.add(w);
                break;
            default:
                told.pictures.computeIfAbsent(sort, k -> new ArrayList<>()).add(got.get(0));
        }
    }

    // ---- cells

    private boolean inside(int x, int y) {
        return m != null && x >= 0 && y >= 0 && x < m.wide && y < m.high;
    }

    private int cell(int x, int y) {
        return y * m.wide + x;
    }

    private int to(int cell, int side) {
        int x = cell % m.wide + new int[] {0, 1, 0, -1}[side];
        int y = cell / m.wide + new int[] {-1, 0, 1, 0}[side];
        return inside(x, y) ? cell(x, y) : -1;
    }

    private List<Integer> near(Set<Integer> set, int cell) {
        List<Integer> list = new ArrayList<>();
        for (int side = 0; side < 4; side++) {
            if (set.contains(to(cell, side))) {
                list.add(to(cell, side));
            }
        }
        return list;
    }

    private int[][] ways(Set<Integer> set) {
        int n = m.wide * m.high;
        int[][] d = new int[n][n];
        for (int i = 0; i < n; i++) {
            Arrays.fill(d[i], 9999);
            if (set.contains(i)) {
                d[i][i] = 0;
                for (int j : near(set, i)) {
                    d[i][j] = 1;
                }
            }
        }
        for (int k = 0; k < n; k++) {
            for (int i = 0; i < n; i++) {
                for (int j = 0; j < n; j++) {
                    d[i][j] = Math.min(d[i][j], d[i][k] + d[k][j]);
                }
            }
        }
        return d;
    }

    private int partsOf(Set<Integer> set) {
        TreeSet<Integer> left = new TreeSet<>(set);
        int parts = 0;
        while (!left.isEmpty()) {
            ArrayList<Integer> stack = new ArrayList<>();
            stack.add(left.pollFirst());
            while (!stack.isEmpty()) {
                for (int other : near(set, stack.remove(stack.size() - 1))) {
                    if (left.remove(other)) {
                        stack.add(other);
                    }
                }
            }
            parts++;
        }
        return parts;
    }

    private Set<Integer> without(int cell) {
        Set<Integer> set = new TreeSet<>(mown);
        set.remove(cell);
        return set;
    }

    private boolean parting(int cell) {
        return mown.contains(cell) && partsOf(without(cell)) > partsOf(mown);
    }

    public int mown(int x, int y) {
        return inside(x, y) ? yes(mown.contains(cell(x, y)) ? 1 : 0) : no(1);
    }

    public int beside(int x, int y) {
        return inside(x, y) ? yes(near(mown, cell(x, y)).size()) : no(1);
    }

    public int parts() {
        return m == null ? no(1) : yes(partsOf(mown));
    }

    public int rings() {
        if (m == null) {
            return no(1);
        }
        int twice = 0;
        for (int c : mown) {
            twice += near(mown, c).size();
        }
        return yes(twice / 2 - mown.size() + partsOf(mown));
    }

    public int ends() {
        return m == null ? no(1) : yes((int) mown.stream().filter(c -> near(mown, c).size() == 1).count());
    }

    public int steps(int cell, int other) {
        int n = m == null ? 0 : m.wide * m.high;
        if (cell < 0 || other < 0 || cell >= n || other >= n) {
            return no(1);
        }
        int d = ways(mown)[cell][other];
        return yes(d < 9999 ? d : -2);
    }

    public int longest() {
        if (m == null) {
            return no(1);
        }
        int most = -2;
        for (int[] row : ways(mown)) {
            for (int d : row) {
                most = d < 9999 ? Math.max(most, d) : most;
            }
        }
        return yes(most);
    }

    public int splits(int x, int y) {
        return inside(x, y) ? yes(parting(cell(x, y)) ? 1 : 0) : no(1);
    }

    // ---- walkers

    private static int next(int seed) {
        return (int) ((75L * seed + 74) % 65537);
    }

    /** Cells and sides by minutes from leaving, as if there were no gates. */
    private List<int[]> trail(Set<Integer> set, int number, int minutes) {
        Walker w = m.walkers.get(number);
        int[][] ways = w.kind.equals("cow") ? ways(set) : null;
        int lot = (seed + number) % 65537;
        int c = w.cell;
        int f = SIDES.indexOf(w.side);
        Map<Integer, Integer> firstFrom = new LinkedHashMap<>();
        firstFrom.put(c, -1);
        List<int[]> trail = new ArrayList<>();
        trail.add(new int[] {c, f});
        for (int k = 0; k < minutes; k++) {
            int go = c;
            List<Integer> near = near(set, c);
            switch (w.kind) {
                case "left":
                case "right":
                    int[] order = w.kind.equals("left") ? new int[] {3, 0, 1, 2} : new int[] {1, 0, 3, 2};
                    for (int turn : order) {
                        int side = (f + turn) % 4;
                        if (set.contains(to(c, side))) {
                            go = to(c, side);
                            f = side;
                            break;
                        }
                    }
                    break;
                case "once":
                    near.removeIf(firstFrom::containsKey);
                    if (!near.isEmpty()) {
                        go = near.get(0);
                    } else if (set.contains(firstFrom.get(c))) {
                        go = firstFrom.get(c);
                    }
                    break;
                case "cow":
                    int least = 9999;
                    for (int other : near) {
                        if (m.noise >= 0 && c != m.noise && ways[other][m.noise] < least) {
                            least = ways[other][m.noise];
                            go = other;
                        }
                    }
                    break;
                default:
                    if (!near.isEmpty()) {
                        lot = next(lot);
                        go = near.get(lot % near.size());
                    }
            }
            firstFrom.putIfAbsent(go, c);
            c = go;
            trail.add(new int[] {c, f});
        }
        return trail;
    }

    private int[] track(Set<Integer> set, int number) {
        int[] track = new int[m.dusk + 1];
        Arrays.fill(track, -2);
        int minute = m.walkers.get(number).leaves;
        for (int[] at : trail(set, number, 220)) {
            if (minute > m.dusk) {
                break;
            }
            track[minute++] = at[0];
            if (m.gates.contains(at[0])) {
                break;
            }
        }
        return track;
    }

    private int outOf(Set<Integer> set, int number) {
        int[] track = track(set, number);
        for (int minute = 0; minute < track.length; minute++) {
            if (m.gates.contains(track[minute])) {
                return minute;
            }
        }
        return -2;
    }

    private int shoutsOf(Set<Integer> set, int number) {
        int out = outOf(set, number);
        return Math.max(0, (out == -2 ? m.dusk : out) - m.walkers.get(number).leaves);
    }

    private int paidOf(Set<Integer> set) {
        int sum = 0;
        for (int i = 0; i < m.walkers.size(); i++) {
            sum += m.pays * shoutsOf(set, i);
        }
        return sum;
    }

    private boolean walker(int w) {
        return m != null && w >= 0 && w < m.walkers.size();
    }

    private boolean lot(int w) {
        return m.walkers.get(w).kind.equals("lot");
    }

    private boolean everOut(int w) {
        return trail(mown, w, 500).stream().anyMatch(at -> m.gates.contains(at[0]));
    }

    public int at(int walker, int minute) {
        if (!walker(walker)) {
            return no(1);
        }
        return minute < 0 || minute > m.dusk ? no(2) : yes(track(mown, walker)[minute]);
    }

    public int out(int walker) {
        return walker(walker) ? yes(outOf(mown, walker)) : no(1);
    }

    public int ever(int walker) {
        if (!walker(walker)) {
            return no(1);
        }
        return lot(walker) ? no(5) : yes(everOut(walker) ? 1 : 0);
    }

    public int ring(int walker) {
        if (!walker(walker)) {
            return no(1);
        }
        if (lot(walker)) {
            return no(5);
        }
        if (everOut(walker)) {
            return no(6);
        }
        List<int[]> trail = trail(mown, walker, 1000);
        for (int k = 1; k < 500; k++) {
            if (Arrays.equals(trail.get(500), trail.get(500 + k))) {
                return yes(k);
            }
        }
        throw new AssertionError("no ring");
    }

    public int meets(int walker, int other) {
        if (!walker(walker) || !walker(other) || walker == other) {
            return no(1);
        }
        int[] a = track(mown, walker);
        int[] b = track(mown, other);
        for (int k = 0; k < a.length; k++) {
            if (a[k] != -2 && a[k] == b[k]) {
                return yes(k);
            }
        }
        return yes(-2);
    }

    public int shouts(int walker) {
        return walker(walker) ? yes(shoutsOf(mown, walker)) : no(1);
    }

    public int visits(int walker) {
        return walker(walker) ? yes((int) Arrays.stream(track(mown, walker)).filter(c -> c >= 0).distinct().count()) : no(1);
    }

    public int crowd(int minute) {
        if (m == null) {
            return no(1);
        }
        if (minute < 0 || minute > m.dusk) {
            return no(2);
        }
        int n = 0;
        for (int i = 0; i < m.walkers.size(); i++) {
            n += track(mown, i)[minute] == -2 ? 0 : 1;
        }
        return yes(n);
    }

    public int paid() {
        return m == null ? no(1) : yes(paidOf(mown));
    }

    public int stuck() {
        if (m == null) {
            return no(1);
        }
        int bits = 0;
        for (int i = 0; i < m.walkers.size(); i++) {
            bits += outOf(mown, i) == -2 ? 1 << i : 0;
        }
        return yes(bits);
    }

    public int caught(int walker, int x, int y) {
        if (!walker(walker) || !inside(x, y)) {
            return no(1);
        }
        if (!mown.contains(cell(x, y))) {
            return no(5);
        }
        int[] track = track(mown, walker);
        Set<Integer> can = new HashSet<>();
        can.add(cell(x, y));
        for (int k = 0; k < track.length; k++) {
            if (can.contains(track[k])) {
                return yes(k);
            }
            for (int c : new ArrayList<>(can)) {
                can.addAll(near(mown, c));
            }
        }
        return yes(-2);
    }

    // ---- pictures, the scythe

    private char wanted(String picture, int cell) {
        List<String> rows = m.pictures.getOrDefault(picture, List.of());
        return cell / m.wide < rows.size() ? rows.get(cell / m.wide).charAt(cell % m.wide) : 'a';
    }

    private TreeSet<Integer> unlikeIn(String picture) {
        TreeSet<Integer> set = new TreeSet<>();
        for (int c = 0; c < m.wide * m.high; c++) {
            char want = wanted(picture, c);
            if (want != 'a' && want != (mown.contains(c) ? 'm' : 's')) {
                set.add(c);
            }
        }
        return set;
    }

    private TreeSet<Integer> clashes() {
        TreeSet<Integer> set = new TreeSet<>();
        for (int c = 0; c < m.wide * m.high; c++) {
            String both = "" + wanted("want", c) + wanted("moon", c);
            if (both.equals("ms") || both.equals("sm")) {
                set.add(c);
            }
        }
        return set;
    }

    private TreeSet<Integer> toMowCells() {
        TreeSet<Integer> set = unlikeIn("want");
        set.removeAll(mown);
        return set;
    }

    public int unlike(boolean moon) {
        return m == null ? no(1) : yes(unlikeIn(moon ? "moon" : "want").size());
    }

    public int firstUnlike(boolean moon) {
        if (m == null) {
            return no(1);
        }
        TreeSet<Integer> set = unlikeIn(moon ? "moon" : "want");
        return yes(set.isEmpty() ? -2 : set.first());
    }

    public int clash() {
        return m == null ? no(1) : yes(clashes().size());
    }

    public int changes() {
        if (m == null) {
            return no(1);
        }
        TreeSet<Integer> set = unlikeIn("want");
        set.addAll(unlikeIn("moon"));
        set.removeAll(clashes());
        return yes(set.size());
    }

    public int toMow() {
        return m == null ? no(1) : yes(toMowCells().size());
    }

    /** Strokes are cells less the joints between them; a joint makes no ring, and a cell has two at most. */
    private int mostJoints(List<int[]> pairs, int from, Map<Integer, Integer> joints, Map<Integer, Integer> group) {
        if (from == pairs.size()) {
            return 0;
        }
        int most = mostJoints(pairs, from + 1, joints, group);
        int a = pairs.get(from)[0];
        int b = pairs.get(from)[1];
        if (joints.get(a) < 2 && joints.get(b) < 2 && !group.get(a).equals(group.get(b))) {
            Map<Integer, Integer> then = new LinkedHashMap<>(group);
            then.replaceAll((c, g) -> g.equals(group.get(a)) ? group.get(b) : g);
            Map<Integer, Integer> more = new LinkedHashMap<>(joints);
            more.merge(a, 1, Integer::sum);
            more.merge(b, 1, Integer::sum);
            most = Math.max(most, 1 + mostJoints(pairs, from + 1, more, then));
        }
        return most;
    }

    public int strokes() {
        if (m == null) {
            return no(1);
        }
        TreeSet<Integer> todo = toMowCells();
        if (todo.size() > 12) {
            return no(3);
        }
        List<int[]> pairs = new ArrayList<>();
        Map<Integer, Integer> joints = new LinkedHashMap<>();
        Map<Integer, Integer> group = new LinkedHashMap<>();
        for (int c : todo) {
            joints.put(c, 0);
            group.put(c, c);
            for (int other : near(todo, c)) {
                if (other > c) {
                    pairs.add(new int[] {c, other});
                }
            }
        }
        return yes(todo.size() - mostJoints(pairs, 0, joints, group));
    }

    // ---- weeks, the wall, shouts

    private TreeSet<Integer> weekOn(Set<Integer> set) {
        TreeSet<Integer> then = new TreeSet<>();
        for (int c : set) {
            if (m.gates.contains(c) || 4 - near(set, c).size() < m.shuts) {
                then.add(c);
            }
        }
        return then;
    }

    public int shut(int x, int y) {
        if (!inside(x, y)) {
            return no(1);
        }
        if (!mown.contains(cell(x, y))) {
            return no(5);
        }
        Set<Integer> set = mown;
        for (int k = 1; k <= 60; k++) {
            set = weekOn(set);
            if (!set.contains(cell(x, y))) {
                return yes(k);
            }
        }
        return yes(-2);
    }

    public int shutWays() {
        if (m == null) {
            return no(1);
        }
        if (m.walkers.isEmpty()) {
            return no(6);
        }
        Set<Integer> set = mown;
        for (int k = 0; k <= 60; k++) {
            int[][] ways = ways(set);
            boolean some = false;
            for (Walker w : m.walkers) {
                for (int g : m.gates) {
                    some |= ways[w.cell][g] < 9999;
                }
            }
            if (!some) {
                return yes(k);
            }
            set = weekOn(set);
        }
        return yes(-2);
    }

    private int seenBits(int x, int y) {
        int bits = 0;
        int[] slants = {0, -1, 1};
        for (int k = 0; k < 3; k++) {
            boolean open = true;
            for (int i = 1; inside(x + i * slants[k], y - i); i++) {
                open &= mown.contains(cell(x + i * slants[k], y - i));
            }
            bits += open ? 1 << k : 0;
        }
        return bits;
    }

    public int seen(int x, int y) {
        return inside(x, y) ? yes(seenBits(x, y)) : no(1);
    }

    private boolean gateSeen(int g) {
        return seenBits(m.gates.get(g) % m.wide, m.gates.get(g) / m.wide) != 0;
    }

    public int gatesSeen() {
        if (m == null) {
            return no(1);
        }
        int bits = 0;
        for (int g = 0; g < m.gates.size(); g++) {
            bits += gateSeen(g) ? 1 << g : 0;
        }
        return yes(bits);
    }

    private List<Integer> placeList() {
        int[][] ways = ways(mown);
        List<Integer> list = new ArrayList<>();
        for (int c : mown) {
            if (m.heard.stream().allMatch(h -> ways[c][h[1]] == h[0])) {
                list.add(c);
            }
        }
        return list;
    }

    public int places() {
        return m == null ? no(1) : yes(placeList().size());
    }

    public int place(int i) {
        return m == null || i < 0 || i >= placeList().size() ? no(1) : yes(placeList().get(i));
    }

    /** The best cell, and what is paid by it. */
    private int[] bestOf() {
        int[] best = {-2, -2};
        for (int c = 0; c < m.wide * m.high; c++) {
            final int changed = c;
            if (m.gates.contains(c) || m.walkers.stream().anyMatch(w -> w.cell == changed)) {
                continue;
            }
            Set<Integer> set = new TreeSet<>(mown);
            if (!set.remove(c)) {
                set.add(c);
            }
            boolean allOut = true;
            for (int i = 0; i < m.walkers.size(); i++) {
                allOut &= outOf(set, i) != -2;
            }
            if (allOut && paidOf(set) > best[1]) {
                best = new int[] {c, paidOf(set)};
            }
        }
        return best;
    }

    public int best() {
        return m == null ? no(1) : yes(bestOf()[0]);
    }

    public int bestPaid() {
        if (m == null) {
            return no(1);
        }
        return bestOf()[0] == -2 ? no(6) : yes(bestOf()[1]);
    }

    // ---- acts

    private void act() {
        acts.add(new State(mown, seed));
        if (acts.size() > 20) {
            acts.remove(0);
        }
    }

    private void goTo(State state) {
        mown = new TreeSet<>(state.cells);
        seed = state.seed;
    }

    public boolean mow(int x, int y) {
        if (!inside(x, y)) {
            return refused(1);
        }
        if (mown.contains(cell(x, y))) {
            return refused(5);
        }
        act();
        mown.add(cell(x, y));
        return fine();
    }

    public boolean stand(int x, int y) {
        if (!inside(x, y)) {
            return refused(1);
        }
        if (!mown.contains(cell(x, y))) {
            return refused(5);
        }
        act();
        mown.remove(cell(x, y));
        return fine();
    }

    public int week() {
        if (m == null) {
            return no(1);
        }
        act();
        int were = mown.size();
        mown = weekOn(mown);
        return yes(were - mown.size());
    }

    public int thin() {
        if (m == null) {
            return no(1);
        }
        List<Integer> list = new ArrayList<>();
        for (int c : mown) {
            boolean kept = m.gates.contains(c) || m.walkers.stream().anyMatch(w -> w.cell == c);
            if (!kept && near(mown, c).size() >= 2 && !parting(c)) {
                list.add(c);
            }
        }
        if (list.isEmpty()) {
            return no(6);
        }
        act();
        seed = next(seed);
        int c = list.get(seed % list.size());
        mown.remove(c);
        return yes(c);
    }

    public boolean seed(int v) {
        if (m == null) {
            return refused(1);
        }
        if (v < 0 || v > 65536) {
            return refused(2);
        }
        seed = v;
        return fine();
    }

    public boolean undo() {
        if (acts.isEmpty()) {
            return refused(6);
        }
        goTo(acts.remove(acts.size() - 1));
        return fine();
    }

    public int mark() {
        if (m == null) {
            return no(1);
        }
        if (marks.size() == 3) {
            return no(3);
        }
        marks.add(new State(mown, seed));
        return yes(marks.size() - 1);
    }

    public boolean back(int mark) {
        if (mark < 0 || mark >= marks.size()) {
            return refused(1);
        }
        goTo(marks.get(mark));
        acts.clear();
        return fine();
    }

    // ---- what is seen

    public int led(int i) throws NoSuchElementException {
        List<Integer> list = new ArrayList<>();
        for (int g = 0; m != null && g < m.gates.size(); g++) {
            if (!gateSeen(g)) {
                list.add(g);
            }
        }
        if (i < 0 || i >= list.size()) {
            throw new NoSuchElementException();
        }
        return list.get(i);
    }

    public int size(int what) {
        if (what < 0 || what > 12) {
            return -1;
        }
        if (what == 12) {
            return tape.length();
        }
        if (m == null) {
            return 0;
        }
        return new int[] {m.wide, m.high, m.dusk, m.pays, m.gates.size(), m.walkers.size(), m.heard.size(),
            m.noise, mown.size(), seed, acts.size(), marks.size()}[what];
    }

    public int trouble() {
        return trouble;
    }

    private int yes(int value) {
        trouble = 0;
        return value;
    }

    private int no(int number) {
        trouble = number;
        return -1;
    }

    private boolean fine() {
        trouble = 0;
        return true;
    }

    private boolean refused(int number) {
        trouble = number;
        return false;
    }
}
