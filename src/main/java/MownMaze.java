import java.util.NoSuchElementException;

/**
 * A meadow of cells that are mown or stand, told as a text, with the walkers in it.
 * The document ../shared/DOC.md says what each call answers.
 *
 * A set of cells is a long: the bit of a cell's number is set if the cell is in it.
 */
public final class MownMaze {
    public static final int NONE = -1;

    /** An answer that is no refusal: there is no such minute, cell or way. */
    private static final int MISSING = -2;

    private static final int NOT_REFUSED = 0;
    private static final int NONE_SUCH = 1;
    private static final int BAD_NUMBER = 2;
    private static final int NO_ROOM = 3;
    private static final int FAULTY = 4;
    private static final int NOT_SO = 5;
    private static final int THERE_IS_NONE = 6;

    private static final int TAPE_ROOM = 900;
    private static final int FEED_BYTES = 20;
    private static final int MOST_WIDE = 8;
    private static final int MOST_HIGH = 6;
    private static final int MOST_CELLS = MOST_WIDE * MOST_HIGH;
    private static final int LATEST_DUSK = 200;
    private static final int MOST_GATES = 4;
    private static final int MOST_HEARD = 5;
    private static final int MOST_WALKERS = 5;
    private static final int MOST_WEEKS = 60;
    private static final int MOST_TO_MOW = 12;
    private static final int SEEDS = 65537;
    private static final int SIDES = 4;

    private static final String SORTS = "meadow row want moon gate noise heard walker";
    private static final int MEADOW = 0;
    private static final int ROW = 1;
    private static final int WANT = 2;
    private static final int MOON = 3;
    private static final int GATE = 4;
    private static final int NOISE = 5;
    private static final int HEARD = 6;
    private static final int WALKER = 7;

    private static final String KINDS = "left right once cow lot";
    private static final int LEFT = 0;
    private static final int RIGHT = 1;
    private static final int ONCE = 2;
    private static final int COW = 3;
    private static final int LOT = 4;

    private static final String SIDE_NAMES = "north east south west";
    private static final int NORTH = 0;
    private static final int EAST = 1;
    private static final int SOUTH = 2;
    private static final int WEST = 3;

    private final Tape tape;
    private final Reader reader;
    private final History history;
    private final Scythe scythe;
    private final Walk walk;
    private final Walk otherWalk;
    private final int[] reach;
    private Plan plan;
    private Plan draft;
    private boolean laid;
    private long cells;
    private int seedNow;
    private int latestTrouble;
    private int latestFault;
    private int faultPlace;

    public MownMaze() {
        tape = new Tape();
        reader = new Reader(new Tokens(tape));
        history = new History();
        scythe = new Scythe();
        plan = new Plan();
        draft = new Plan();
        walk = new Walk(plan);
        otherWalk = new Walk(plan);
        reach = new int[MOST_CELLS];
    }

    // ---- the meadow

    public int feed(int a, int b, int c, int d, int e) {
        if (!tape.hasRoom(FEED_BYTES)) {
            return NONE;
        }
        tape.put(a);
        tape.put(b);
        tape.put(c);
        tape.put(d);
        tape.put(e);
        return tape.length();
    }

    public int meadow(int n) {
        if (n < 0 || n > tape.length()) {
            return refuse(BAD_NUMBER);
        }
        boolean sound = reader.read(draft, n);
        tape.clear();
        latestFault = reader.faultFound();
        faultPlace = reader.placeOfFault();
        if (!sound) {
            return refuse(FAULTY);
        }
        Plan told = draft;
        draft = plan;
        plan = told;
        laid = true;
        cells = plan.rows.mownCells;
        seedNow = 0;
        history.forget();
        return answer(Long.bitCount(cells));
    }

    public int fault() {
        return latestFault;
    }

    public int where() {
        return latestTrouble == FAULTY ? faultPlace : NONE;
    }

    // ---- cells

    public int mown(int x, int y) {
        if (!isCell(x, y)) {
            return refuse(NONE_SUCH);
        }
        return answer(isMown(x, y) ? 1 : 0);
    }

    public int beside(int x, int y) {
        if (!isCell(x, y)) {
            return refuse(NONE_SUCH);
        }
        return answer(plan.ground.countBeside(cells, plan.ground.number(x, y)));
    }

    public int parts() {
        return laid ? answer(plan.ground.countParts(cells)) : refuse(NONE_SUCH);
    }

    public int rings() {
        return laid ? answer(plan.ground.countRings(cells)) : refuse(NONE_SUCH);
    }

    public int ends() {
        return laid ? answer(plan.ground.countEnds(cells)) : refuse(NONE_SUCH);
    }

    public int steps(int cell, int other) {
        if (!isNumber(cell) || !isNumber(other)) {
            return refuse(NONE_SUCH);
        }
        return answer(plan.ground.stepsBetween(cells, cell, other));
    }

    public int longest() {
        return laid ? answer(plan.ground.longestWay(cells)) : refuse(NONE_SUCH);
    }

    public int splits(int x, int y) {
        if (!isCell(x, y)) {
            return refuse(NONE_SUCH);
        }
        return answer(plan.ground.isParting(cells, plan.ground.number(x, y)) ? 1 : 0);
    }

    // ---- walkers

    public int at(int walker, int minute) {
        if (!isWalker(walker)) {
            return refuse(NONE_SUCH);
        }
        if (!isMinute(minute)) {
            return refuse(BAD_NUMBER);
        }
        walk.goTillDusk(plan, walker, cells, seedNow);
        return answer(walk.cellIn(minute));
    }

    public int out(int walker) {
        if (!isWalker(walker)) {
            return refuse(NONE_SUCH);
        }
        walk.goTillDusk(plan, walker, cells, seedNow);
        return answer(walk.outIn());
    }

    public int ever(int walker) {
        if (!isWalker(walker)) {
            return refuse(NONE_SUCH);
        }
        if (goesByLot(walker)) {
            return refuse(NOT_SO);
        }
        walk.begin(plan, walker, cells, seedNow);
        return answer(walk.isOutSometime() ? 1 : 0);
    }

    public int ring(int walker) {
        if (!isWalker(walker)) {
            return refuse(NONE_SUCH);
        }
        if (goesByLot(walker)) {
            return refuse(NOT_SO);
        }
        walk.begin(plan, walker, cells, seedNow);
        if (walk.isOutSometime()) {
            return refuse(THERE_IS_NONE);
        }
        return answer(walk.ringLength());
    }

    public int meets(int walker, int other) {
        if (!isWalker(walker) || !isWalker(other) || walker == other) {
            return refuse(NONE_SUCH);
        }
        walk.goTillDusk(plan, walker, cells, seedNow);
        otherWalk.goTillDusk(plan, other, cells, seedNow);
        for (int minute = 0; minute <= plan.dusk; minute++) {
            int cell = walk.cellIn(minute);
            if (cell >= 0 && cell == otherWalk.cellIn(minute)) {
                return answer(minute);
            }
        }
        return answer(MISSING);
    }

    public int shouts(int walker) {
        if (!isWalker(walker)) {
            return refuse(NONE_SUCH);
        }
        walk.goTillDusk(plan, walker, cells, seedNow);
        return answer(walk.countShouts());
    }

    public int visits(int walker) {
        if (!isWalker(walker)) {
            return refuse(NONE_SUCH);
        }
        walk.goTillDusk(plan, walker, cells, seedNow);
        return answer(walk.countCells());
    }

    public int crowd(int minute) {
        if (!laid) {
            return refuse(NONE_SUCH);
        }
        if (!isMinute(minute)) {
            return refuse(BAD_NUMBER);
        }
        int there = 0;
        for (int walker = 0; walker < plan.walkerCount; walker++) {
            walk.goTillDusk(plan, walker, cells, seedNow);
            if (walk.cellIn(minute) >= 0) {
                there++;
            }
        }
        return answer(there);
    }

    public int paid() {
        if (!laid) {
            return refuse(NONE_SUCH);
        }
        int all = 0;
        for (int walker = 0; walker < plan.walkerCount; walker++) {
            walk.goTillDusk(plan, walker, cells, seedNow);
            all += walk.countShouts();
        }
        return answer(plan.pays * all);
    }

    public int stuck() {
        if (!laid) {
            return refuse(NONE_SUCH);
        }
        int bits = 0;
        for (int walker = 0; walker < plan.walkerCount; walker++) {
            walk.goTillDusk(plan, walker, cells, seedNow);
            if (walk.outIn() == MISSING) {
                bits |= 1 << walker;
            }
        }
        return answer(bits);
    }

    public int caught(int walker, int x, int y) {
        if (!isWalker(walker) || !isCell(x, y)) {
            return refuse(NONE_SUCH);
        }
        if (!isMown(x, y)) {
            return refuse(NOT_SO);
        }
        walk.goTillDusk(plan, walker, cells, seedNow);
        plan.ground.measure(cells, plan.ground.number(x, y), reach);
        for (int minute = 0; minute <= plan.dusk; minute++) {
            int cell = walk.cellIn(minute);
            if (cell >= 0 && cell < reach.length && reach[cell] >= 0 && reach[cell] <= minute) {
                return answer(minute);
            }
        }
        return answer(MISSING);
    }

    // ---- pictures, the scythe

    public int unlike(boolean moon) {
        return laid ? answer(Long.bitCount(unlikeCells(moon))) : refuse(NONE_SUCH);
    }

    public int firstUnlike(boolean moon) {
        return laid ? answer(nthCell(unlikeCells(moon), 0)) : refuse(NONE_SUCH);
    }

    public int clash() {
        return laid ? answer(Long.bitCount(clashingCells())) : refuse(NONE_SUCH);
    }

    public int changes() {
        if (!laid) {
            return refuse(NONE_SUCH);
        }
        long wrong = unlikeCells(false) | unlikeCells(true);
        return answer(Long.bitCount(wrong & ~clashingCells()));
    }

    public int toMow() {
        return laid ? answer(Long.bitCount(cellsToMow())) : refuse(NONE_SUCH);
    }

    public int strokes() {
        if (!laid) {
            return refuse(NONE_SUCH);
        }
        if (Long.bitCount(cellsToMow()) > MOST_TO_MOW) {
            return refuse(NO_ROOM);
        }
        return answer(scythe.fewestStrokes(plan.ground, cellsToMow()));
    }

    // ---- weeks, the wall, shouts

    public int shut(int x, int y) {
        if (!isCell(x, y)) {
            return refuse(NONE_SUCH);
        }
        if (!isMown(x, y)) {
            return refuse(NOT_SO);
        }
        long cell = bit(plan.ground.number(x, y));
        long later = cells;
        for (int weeks = 1; weeks <= MOST_WEEKS; weeks++) {
            later = weekLater(later);
            if ((later & cell) == 0) {
                return answer(weeks);
            }
        }
        return answer(MISSING);
    }

    public int shutWays() {
        if (!laid) {
            return refuse(NONE_SUCH);
        }
        if (plan.walkerCount == 0) {
            return refuse(THERE_IS_NONE);
        }
        long starts = plan.walkerCells();
        long later = cells;
        for (int weeks = 0; weeks <= MOST_WEEKS; weeks++) {
            long reached = plan.ground.flood(later, plan.gateCells & later);
            if ((reached & starts) == 0) {
                return answer(weeks);
            }
            later = weekLater(later);
        }
        return answer(MISSING);
    }

    public int seen(int x, int y) {
        if (!isCell(x, y)) {
            return refuse(NONE_SUCH);
        }
        return answer(plan.ground.seenFromWall(cells, plan.ground.number(x, y)));
    }

    public int gatesSeen() {
        if (!laid) {
            return refuse(NONE_SUCH);
        }
        int bits = 0;
        for (int gate = 0; gate < plan.gateCount; gate++) {
            if (isGateSeen(gate)) {
                bits |= 1 << gate;
            }
        }
        return answer(bits);
    }

    public int places() {
        return laid ? answer(Long.bitCount(placesByShouts())) : refuse(NONE_SUCH);
    }

    public int place(int i) {
        int cell = laid ? nthCell(placesByShouts(), i) : MISSING;
        return cell == MISSING ? refuse(NONE_SUCH) : answer(cell);
    }

    public int best() {
        return laid ? answer(bestCell()) : refuse(NONE_SUCH);
    }

    public int bestPaid() {
        if (!laid) {
            return refuse(NONE_SUCH);
        }
        int cell = bestCell();
        if (cell == MISSING) {
            return refuse(THERE_IS_NONE);
        }
        return answer(paidIfAllGetOut(cells ^ bit(cell)));
    }

    // ---- acts

    public boolean mow(int x, int y) {
        if (!isCell(x, y)) {
            return rejected(NONE_SUCH);
        }
        if (isMown(x, y)) {
            return rejected(NOT_SO);
        }
        act(cells | bit(plan.ground.number(x, y)));
        return accepted();
    }

    public boolean stand(int x, int y) {
        if (!isCell(x, y)) {
            return rejected(NONE_SUCH);
        }
        if (!isMown(x, y)) {
            return rejected(NOT_SO);
        }
        act(cells & ~bit(plan.ground.number(x, y)));
        return accepted();
    }

    public int week() {
        if (!laid) {
            return refuse(NONE_SUCH);
        }
        long before = cells;
        act(weekLater(cells));
        return answer(Long.bitCount(before & ~cells));
    }

    public int thin() {
        if (!laid) {
            return refuse(NONE_SUCH);
        }
        long choice = cellsToThin();
        int count = Long.bitCount(choice);
        if (count == 0) {
            return refuse(THERE_IS_NONE);
        }
        int drawn = draw(seedNow);
        int cell = nthCell(choice, drawn % count);
        act(cells & ~bit(cell));
        seedNow = drawn;
        return answer(cell);
    }

    public boolean seed(int v) {
        if (!laid) {
            return rejected(NONE_SUCH);
        }
        if (v < 0 || v >= SEEDS) {
            return rejected(BAD_NUMBER);
        }
        seedNow = v;
        return accepted();
    }

    public boolean undo() {
        if (history.actCount() == 0) {
            return rejected(THERE_IS_NONE);
        }
        cells = history.latestCells();
        seedNow = history.latestSeed();
        history.dropLatest();
        return accepted();
    }

    public int mark() {
        if (!laid) {
            return refuse(NONE_SUCH);
        }
        int number = history.addMark(cells, seedNow);
        return number == NONE ? refuse(NO_ROOM) : answer(number);
    }

    public boolean back(int mark) {
        if (!history.hasMark(mark)) {
            return rejected(NONE_SUCH);
        }
        cells = history.markedCells(mark);
        seedNow = history.markedSeed(mark);
        history.forgetActs();
        return accepted();
    }

    // ---- what is seen

    public int led(int i) throws NoSuchElementException {
        int passed = 0;
        for (int gate = 0; laid && gate < plan.gateCount; gate++) {
            if (!isGateSeen(gate)) {
                if (passed == i) {
                    return gate;
                }
                passed++;
            }
        }
        throw new NoSuchElementException("there is no such gate");
    }

    public int size(int what) {
        if (what < 0 || what > 12) {
            return NONE;
        }
        if (what == 12) {
            return tape.length();
        }
        if (!laid) {
            return 0;
        }
        switch (what) {
            case 8:
                return Long.bitCount(cells);
            case 9:
                return seedNow;
            case 10:
                return history.actCount();
            case 11:
                return history.markCount();
            default:
                return plan.told(what);
        }
    }

    public int trouble() {
        return latestTrouble;
    }

    // ---- how calls are answered and refused

    private int answer(int value) {
        latestTrouble = NOT_REFUSED;
        return value;
    }

    private int refuse(int number) {
        latestTrouble = number;
        return NONE;
    }

    private boolean accepted() {
        latestTrouble = NOT_REFUSED;
        return true;
    }

    private boolean rejected(int number) {
        latestTrouble = number;
        return false;
    }

    private boolean isCell(int x, int y) {
        return laid && plan.ground.isInside(x, y);
    }

    private boolean isNumber(int cell) {
        return laid && cell >= 0 && cell < plan.ground.count;
    }

    private boolean isWalker(int walker) {
        return laid && walker >= 0 && walker < plan.walkerCount;
    }

    private boolean isMinute(int minute) {
        return minute >= 0 && minute <= plan.dusk;
    }

    private boolean isMown(int x, int y) {
        return isIn(cells, plan.ground.number(x, y));
    }

    private boolean goesByLot(int walker) {
        return plan.walker(walker).kind == LOT;
    }

    // ---- what the calls share

    private void act(long after) {
        history.keepAct(cells, seedNow);
        cells = after;
    }

    private long weekLater(long mownCells) {
        return plan.ground.weekLater(mownCells, plan.gateCells, plan.shuts);
    }

    private boolean isGateSeen(int gate) {
        return plan.ground.seenFromWall(cells, plan.gateCell(gate)) != 0;
    }

    private long unlikeCells(boolean moon) {
        return (moon ? plan.moons : plan.wants).cellsUnlike(cells);
    }

    private long clashingCells() {
        return (plan.wants.mownCells & plan.moons.standingCells)
            | (plan.wants.standingCells & plan.moons.mownCells);
    }

    private long cellsToMow() {
        return plan.wants.mownCells & ~cells;
    }

    private long placesByShouts() {
        long left = cells;
        for (int i = 0; i < plan.heardCount; i++) {
            left &= plan.ground.cellsAtSteps(cells, plan.heardCell(i), plan.heardSteps(i));
        }
        return left;
    }

    private long cellsToThin() {
        long choice = 0;
        long open = cells & ~plan.gateCells & ~plan.walkerCells();
        for (int cell = 0; cell < plan.ground.count; cell++) {
            if (isIn(open, cell) && plan.ground.countBeside(cells, cell) >= 2
                && !plan.ground.isParting(cells, cell)) {
                choice |= bit(cell);
            }
        }
        return choice;
    }

    private int bestCell() {
        long open = plan.ground.all & ~plan.gateCells & ~plan.walkerCells();
        int cellOfMost = MISSING;
        int most = MISSING;
        for (int cell = 0; cell < plan.ground.count; cell++) {
            int pay = isIn(open, cell) ? paidIfAllGetOut(cells ^ bit(cell)) : MISSING;
            if (pay > most) {
                most = pay;
                cellOfMost = cell;
            }
        }
        return cellOfMost;
    }

    private int paidIfAllGetOut(long mownCells) {
        int all = 0;
        for (int walker = 0; walker < plan.walkerCount; walker++) {
            walk.goTillDusk(plan, walker, mownCells, seedNow);
            if (walk.outIn() == MISSING) {
                return MISSING;
            }
            all += walk.countShouts();
        }
        return plan.pays * all;
    }

    private static int draw(int seed) {
        return (75 * seed + 74) % SEEDS;
    }

    private static long bit(int cell) {
        return 1L << cell;
    }

    private static boolean isIn(long set, int cell) {
        return (set >>> cell & 1) != 0;
    }

    private static int nthCell(long set, int n) {
        int passed = 0;
        for (int cell = 0; cell < MOST_CELLS; cell++) {
            if (isIn(set, cell)) {
                if (passed == n) {
                    return cell;
                }
                passed++;
            }
        }
        return MISSING;
    }

    /** The bytes that were fed. */
    private static final class Tape {
        private final byte[] bytes = new byte[TAPE_ROOM];
        private int length;

        int length() {
            return length;
        }

        boolean hasRoom(int more) {
            return length + more <= bytes.length;
        }

        void clear() {
            length = 0;
        }

        void put(int number) {
            for (int shift = 24; shift >= 0 && length < bytes.length; shift -= 8) {
                bytes[length] = (byte) (number >>> shift);
                length++;
            }
        }

        int byteAt(int place) {
            return place >= 0 && place < length ? bytes[place] & 255 : 0;
        }
    }

    /** Parts the first bytes of the tape into tokens; one of them is looked at. */
    private static final class Tokens {
        static final int END = 0;
        static final int WORD = 1;
        static final int WHOLE = 2;
        static final int SIGN = 3;
        static final int NO_TOKEN = 4;

        private static final int MOST_LETTERS = 8;
        private static final int MOST_DIGITS = 3;

        private final Tape tape;
        private int end;
        private int next;
        private int kind;
        private int start;
        private int value;
        private long code;

        Tokens(Tape tape) {
            this.tape = tape;
        }

        int kind() {
            return kind;
        }

        int start() {
            return start;
        }

        int value() {
            return value;
        }

        /** Words have the same code if they are the same. */
        long code() {
            return code;
        }

        int letterCount() {
            return next - start;
        }

        int letter(int i) {
            return tape.byteAt(start + i);
        }

        void open(int byteCount) {
            end = byteCount;
            next = 0;
            goOn();
        }

        void goOn() {
            for (int i = next; i < end && tape.byteAt(i) == ' '; i++) {
                next = i + 1;
            }
            start = next;
            kind = start < end ? kindOf(tape.byteAt(start)) : END;
            value = 0;
            code = 0;
            int limit = kind == WORD || kind == WHOLE ? end : Math.min(end, start + 1);
            for (int i = start; i < limit && kindOf(tape.byteAt(i)) == kind; i++) {
                value = value * 10 + (tape.byteAt(i) - '0');
                code = code * 32 + (tape.byteAt(i) - 'a' + 1);
                next = i + 1;
            }
            if (next - start > mostBytes()) {
                kind = NO_TOKEN;
            }
        }

        boolean isSign(char sign) {
            return kind == SIGN && tape.byteAt(start) == sign;
        }

        boolean isWord(String word) {
            boolean same = kind == WORD && letterCount() == word.length();
            for (int i = 0; same && i < word.length(); i++) {
                same = tape.byteAt(start + i) == word.charAt(i);
            }
            return same;
        }

        /** Which of the words of a list, parted by blanks, this token is. */
        int numberIn(String list) {
            int number = 0;
            int from = 0;
            for (int i = 0; i <= list.length(); i++) {
                if (i == list.length() || list.charAt(i) == ' ') {
                    if (kind == WORD && code == codeOf(list, from, i)) {
                        return number;
                    }
                    number++;
                    from = i + 1;
                }
            }
            return NONE;
        }

        private int mostBytes() {
            return kind == WORD ? MOST_LETTERS : kind == WHOLE ? MOST_DIGITS : 1;
        }

        /** Which token begins with a byte. */
        private static int kindOf(int sign) {
            if (sign >= 'a' && sign <= 'z') {
                return WORD;
            }
            if (sign >= '0' && sign <= '9') {
                return WHOLE;
            }
            return sign == ';' || sign == ',' ? SIGN : NO_TOKEN;
        }

        private static long codeOf(String text, int from, int till) {
            long code = 0;
            for (int i = from; i < till && i < text.length(); i++) {
                code = code * 32 + (text.charAt(i) - 'a' + 1);
            }
            return code;
        }
    }

    /**
     * Reads a meadow's text into a plan. It goes from the left and looks at each token in its place,
     * so the fault at which it stops is the first one.
     */
    private static final class Reader {
        private static final int FORM = 1;
        private static final int AGAIN = 3;
        private static final int BOUNDS = 4;
        private static final int MANY = 5;
        private static final int LACKS = 6;
        private static final int LETTERS = 7;

        private final Tokens tokens;
        private int fault;
        private int faultPlace;
        private int number;
        private int cell;
        private int cellPlace;

        Reader(Tokens tokens) {
            this.tokens = tokens;
        }

        int faultFound() {
            return fault;
        }

        int placeOfFault() {
            return faultPlace;
        }

        boolean read(Plan plan, int byteCount) {
            fault = 0;
            faultPlace = NONE;
            plan.empty();
            tokens.open(byteCount);
            for (int line = 0; line <= byteCount; line++) {
                if (!readLine(plan)) {
                    return false;
                }
                if (tokens.kind() == Tokens.END) {
                    return plan.lacksRows() ? fail(LACKS) : true;
                }
                if (!takeSign(';')) {
                    return false;
                }
            }
            return fail(FORM);
        }

        private boolean readLine(Plan plan) {
            int sort = tokens.numberIn(SORTS);
            if (sort == NONE) {
                return fail(FORM);
            }
            if (sort == MEADOW) {
                return plan.isLaid() ? fail(AGAIN) : readSizes(plan);
            }
            if (!plan.isLaid()) {
                return fail(LACKS);
            }
            if (sort == NOISE && plan.hasNoise()) {
                return fail(AGAIN);
            }
            if (!plan.hasRoomFor(sort)) {
                return fail(MANY);
            }
            tokens.goOn();
            switch (sort) {
                case ROW:
                    return readRow(plan, plan.rows, false);
                case WANT:
                    return readRow(plan, plan.wants, true);
                case MOON:
                    return readRow(plan, plan.moons, true);
                case GATE:
                    return readGate(plan);
                case NOISE:
                    return readNoise(plan);
                case HEARD:
                    return readHeard(plan);
                case WALKER:
                    return readWalker(plan);
                default:
                    return fail(FORM);
            }
        }

        private boolean readSizes(Plan plan) {
            tokens.goOn();
            if (!takeNamed("wide", 2, MOST_WIDE)) {
                return false;
            }
            int wide = number;
            if (!takeNamed("high", 2, MOST_HIGH)) {
                return false;
            }
            int high = number;
            if (!takeNamed("dusk", 1, LATEST_DUSK)) {
                return false;
            }
            int dusk = number;
            if (!takeNamed("pays", 0, 99)) {
                return false;
            }
            int pays = number;
            if (!takeNamed("shuts", 1, SIDES)) {
                return false;
            }
            plan.lay(wide, high, dusk, pays, number);
            return true;
        }

        private boolean readRow(Plan plan, Picture picture, boolean anyGoes) {
            if (tokens.kind() != Tokens.WORD) {
                return fail(FORM);
            }
            int wide = plan.ground.wide;
            if (tokens.letterCount() != wide) {
                return fail(LETTERS);
            }
            for (int x = 0; x < wide; x++) {
                int letter = tokens.letter(x);
                if (letter != 'm' && letter != 's' && !(anyGoes && letter == 'a')) {
                    return fail(LETTERS);
                }
                picture.tell(plan.ground.number(x, picture.lineCount), letter);
            }
            picture.lineCount++;
            tokens.goOn();
            return true;
        }

        private boolean readGate(Plan plan) {
            if (!takeCell(plan.ground)) {
                return false;
            }
            if (isIn(plan.gateCells, cell)) {
                return failAt(AGAIN, cellPlace);
            }
            plan.addGate(cell);
            return true;
        }

        private boolean readNoise(Plan plan) {
            if (!takeCell(plan.ground)) {
                return false;
            }
            plan.noise = cell;
            return true;
        }

        private boolean readHeard(Plan plan) {
            if (!takeWhole(0, 60)) {
                return false;
            }
            int steps = number;
            if (!takeWord("from") || !takeCell(plan.ground)) {
                return false;
            }
            plan.addHeard(steps, cell);
            return true;
        }

        private boolean readWalker(Plan plan) {
            if (tokens.kind() != Tokens.WORD || tokens.numberIn(SORTS) != NONE) {
                return fail(FORM);
            }
            long name = tokens.code();
            if (plan.hasWalkerNamed(name)) {
                return fail(AGAIN);
            }
            tokens.goOn();
            if (!takeOneOf(KINDS)) {
                return false;
            }
            int kind = number;
            if (!takeWord("at") || !takeCell(plan.ground) || !takeWord("faces") || !takeOneOf(SIDE_NAMES)) {
                return false;
            }
            int side = number;
            if (!takeNamed("leaves", 0, 99)) {
                return false;
            }
            plan.addWalker(name, kind, cell, side, number);
            return true;
        }

        private boolean takeSign(char sign) {
            if (!tokens.isSign(sign)) {
                return fail(FORM);
            }
            tokens.goOn();
            return true;
        }

        private boolean takeWord(String word) {
            if (!tokens.isWord(word)) {
                return fail(FORM);
            }
            tokens.goOn();
            return true;
        }

        private boolean takeOneOf(String list) {
            number = tokens.numberIn(list);
            if (number == NONE) {
                return fail(FORM);
            }
            tokens.goOn();
            return true;
        }

        private boolean takeWhole(int least, int most) {
            if (tokens.kind() != Tokens.WHOLE) {
                return fail(FORM);
            }
            number = tokens.value();
            if (number < least || number > most) {
                return fail(BOUNDS);
            }
            tokens.goOn();
            return true;
        }

        private boolean takeNamed(String word, int least, int most) {
            return takeWord(word) && takeWhole(least, most);
        }

        private boolean takeCell(Ground ground) {
            if (!takeWhole(0, ground.wide - 1)) {
                return false;
            }
            int x = number;
            if (!takeSign(',')) {
                return false;
            }
            cellPlace = tokens.start();
            if (!takeWhole(0, ground.high - 1)) {
                return false;
            }
            cell = ground.number(x, number);
            return true;
        }

        private boolean fail(int faultNumber) {
            return failAt(faultNumber, tokens.start());
        }

        private boolean failAt(int faultNumber, int place) {
            fault = faultNumber;
            faultPlace = place;
            return false;
        }
    }

    /** Rows of cells that are mown, stand, or (in neither set) are any. */
    private static final class Picture {
        private long mownCells;
        private long standingCells;
        private int lineCount;

        void empty() {
            mownCells = 0;
            standingCells = 0;
            lineCount = 0;
        }

        void tell(int cell, int letter) {
            if (letter == 'm') {
                mownCells |= bit(cell);
            } else if (letter == 's') {
                standingCells |= bit(cell);
            }
        }

        long cellsUnlike(long cells) {
            return (mownCells & ~cells) | (standingCells & cells);
        }
    }

    /** A walker as told. */
    private static final class Walker {
        private long name;
        private int kind;
        private int cell;
        private int side;
        private int leaves;
    }

    /** What a text tells of a meadow. */
    private static final class Plan {
        private final Ground ground = new Ground();
        private final Picture rows = new Picture();
        private final Picture wants = new Picture();
        private final Picture moons = new Picture();
        private final int[] gates = new int[MOST_GATES];
        private final int[] spots = new int[MOST_HEARD];
        private final int[] spotSteps = new int[MOST_HEARD];
        private final Walker[] walkers = new Walker[MOST_WALKERS];
        private int dusk;
        private int pays;
        private int shuts;
        private int gateCount;
        private long gateCells;
        private int noise;
        private int heardCount;
        private int walkerCount;

        Plan() {
            for (int i = 0; i < walkers.length; i++) {
                walkers[i] = new Walker();
            }
            noise = MISSING;
        }

        void empty() {
            ground.lay(0, 0);
            rows.empty();
            wants.empty();
            moons.empty();
            gateCount = 0;
            gateCells = 0;
            noise = MISSING;
            heardCount = 0;
            walkerCount = 0;
        }

        void lay(int wide, int high, int minutes, int pay, int sides) {
            ground.lay(wide, high);
            dusk = minutes;
            pays = pay;
            shuts = sides;
        }

        boolean isLaid() {
            return ground.count > 0;
        }

        boolean lacksRows() {
            return rows.lineCount < ground.high;
        }

        boolean hasNoise() {
            return noise != MISSING;
        }

        boolean hasRoomFor(int sort) {
            switch (sort) {
                case ROW:
                    return rows.lineCount < ground.high;
                case WANT:
                    return wants.lineCount < ground.high;
                case MOON:
                    return moons.lineCount < ground.high;
                case GATE:
                    return gateCount < gates.length;
                case HEARD:
                    return heardCount < spots.length;
                case WALKER:
                    return walkerCount < walkers.length;
                default:
                    return true;
            }
        }

        void addGate(int cell) {
            if (gateCount < gates.length) {
                gates[gateCount] = cell;
                gateCells |= bit(cell);
                gateCount++;
            }
        }

        void addHeard(int steps, int cell) {
            if (heardCount < spots.length && heardCount < spotSteps.length) {
                spotSteps[heardCount] = steps;
                spots[heardCount] = cell;
                heardCount++;
            }
        }

        void addWalker(long name, int kind, int cell, int side, int leaves) {
            if (walkerCount < walkers.length) {
                Walker walker = walkers[walkerCount];
                walker.name = name;
                walker.kind = kind;
                walker.cell = cell;
                walker.side = side;
                walker.leaves = leaves;
                walkerCount++;
            }
        }

        boolean hasWalkerNamed(long name) {
            for (int i = 0; i < walkerCount && i < walkers.length; i++) {
                if (walkers[i].name == name) {
                    return true;
                }
            }
            return false;
        }

        int gateCell(int gate) {
            return gate >= 0 && gate < gates.length ? gates[gate] : MISSING;
        }

        int heardCell(int i) {
            return i >= 0 && i < spots.length ? spots[i] : MISSING;
        }

        int heardSteps(int i) {
            return i >= 0 && i < spotSteps.length ? spotSteps[i] : MISSING;
        }

        Walker walker(int i) {
            return i >= 0 && i < walkers.length ? walkers[i] : walkers[0];
        }

        long walkerCells() {
            long set = 0;
            for (int i = 0; i < walkerCount && i < walkers.length; i++) {
                set |= bit(walkers[i].cell);
            }
            return set;
        }

        /** The answers of size() that no act changes. */
        int told(int what) {
            switch (what) {
                case 0:
                    return ground.wide;
                case 1:
                    return ground.high;
                case 2:
                    return dusk;
                case 3:
                    return pays;
                case 4:
                    return gateCount;
                case 5:
                    return walkerCount;
                case 6:
                    return heardCount;
                case 7:
                    return noise;
                default:
                    return NONE;
            }
        }
    }

    /** How cells lie to each other; which of them are mown is told with each question. */
    private static final class Ground {
        private final int[] cellsTo = new int[MOST_CELLS * SIDES];
        private int wide;
        private int high;
        private int count;
        private long all;
        private long firstColumn;
        private long lastColumn;

        void lay(int columns, int rows) {
            wide = columns;
            high = rows;
            count = columns * rows;
            all = bit(count) - 1;
            firstColumn = 0;
            lastColumn = 0;
            for (int y = 0; y < rows; y++) {
                firstColumn |= bit(number(0, y));
                lastColumn |= bit(number(columns - 1, y));
                for (int x = 0; x < columns; x++) {
                    layBeside(x, y, NORTH, x, y - 1);
                    layBeside(x, y, EAST, x + 1, y);
                    layBeside(x, y, SOUTH, x, y + 1);
                    layBeside(x, y, WEST, x - 1, y);
                }
            }
        }

        private void layBeside(int x, int y, int side, int otherX, int otherY) {
            int i = number(x, y) * SIDES + side;
            if (i >= 0 && i < cellsTo.length) {
                cellsTo[i] = isInside(otherX, otherY) ? number(otherX, otherY) : NONE;
            }
        }

        boolean isInside(int x, int y) {
            return x >= 0 && x < wide && y >= 0 && y < high;
        }

        int number(int x, int y) {
            return wide * y + x;
        }

        /** The cell to one side; NONE beyond the meadow. */
        int cellTo(int side, int cell) {
            int i = cell * SIDES + side;
            return i >= 0 && i < cellsTo.length ? cellsTo[i] : NONE;
        }

        /** All cells beside one of a set. */
        long besideAll(long set) {
            long toEast = (set & ~lastColumn) << 1;
            long toWest = (set & ~firstColumn) >>> 1;
            return (toEast | toWest | (set << wide) | (set >>> wide)) & all;
        }

        int countBeside(long mown, int cell) {
            return Long.bitCount(besideAll(bit(cell)) & mown);
        }

        /** All mown cells that have a way to one of a set of mown cells. */
        long flood(long mown, long from) {
            long reached = from;
            long front = from;
            for (int i = 0; i < MOST_CELLS && front != 0; i++) {
                front = besideAll(front) & mown & ~reached;
                reached |= front;
            }
            return reached;
        }

        int countParts(long mown) {
            int parts = 0;
            long left = mown;
            for (int i = 0; i < MOST_CELLS && left != 0; i++) {
                left &= ~flood(mown, left & -left);
                parts++;
            }
            return parts;
        }

        int countRings(long mown) {
            int pairsAcross = Long.bitCount(mown & ((mown & ~lastColumn) << 1));
            int pairsDown = Long.bitCount(mown & (mown << wide));
            return pairsAcross + pairsDown - Long.bitCount(mown) + countParts(mown);
        }

        int countEnds(long mown) {
            int ends = 0;
            for (int cell = 0; cell < count; cell++) {
                if (isIn(mown, cell) && countBeside(mown, cell) == 1) {
                    ends++;
                }
            }
            return ends;
        }

        /** There are more parts without a cell if those beside it have no other way to each other. */
        boolean isParting(long mown, int cell) {
            long others = mown & ~bit(cell);
            long near = besideAll(bit(cell)) & others;
            return isIn(mown, cell) && (near & ~flood(others, near & -near)) != 0;
        }

        /** The mown cells that have just so many steps to a cell. */
        long cellsAtSteps(long mown, int from, int steps) {
            long front = bit(from) & mown;
            long passed = front;
            for (int i = 0; i < steps; i++) {
                front = besideAll(front) & mown & ~passed;
                passed |= front;
            }
            return front;
        }

        int stepsBetween(long mown, int from, int to) {
            long front = bit(from) & mown;
            long passed = front;
            for (int steps = 0; steps < MOST_CELLS; steps++) {
                if (isIn(front, to)) {
                    return steps;
                }
                front = besideAll(front) & mown & ~passed;
                passed |= front;
            }
            return MISSING;
        }

        /** For each cell the steps from one, or MISSING. */
        void measure(long mown, int from, int[] steps) {
            for (int cell = 0; cell < steps.length; cell++) {
                steps[cell] = MISSING;
            }
            long front = bit(from) & mown;
            long passed = front;
            for (int far = 0; far < MOST_CELLS && front != 0; far++) {
                for (int cell = 0; cell < steps.length; cell++) {
                    if (isIn(front, cell)) {
                        steps[cell] = far;
                    }
                }
                front = besideAll(front) & mown & ~passed;
                passed |= front;
            }
        }

        int longestWay(long mown) {
            int longest = MISSING;
            for (int cell = 0; cell < count; cell++) {
                if (isIn(mown, cell)) {
                    longest = Math.max(longest, farthest(mown, cell));
                }
            }
            return longest;
        }

        private int farthest(long mown, int from) {
            long front = bit(from) & mown;
            long passed = front;
            int far = 0;
            for (int steps = 0; steps < MOST_CELLS && front != 0; steps++) {
                far = steps;
                front = besideAll(front) & mown & ~passed;
                passed |= front;
            }
            return far;
        }

        long weekLater(long mown, long gates, int shuts) {
            long later = mown;
            for (int cell = 0; cell < count; cell++) {
                if (isIn(mown & ~gates, cell) && SIDES - countBeside(mown, cell) >= shuts) {
                    later &= ~bit(cell);
                }
            }
            return later;
        }

        /** Bits: straight up 1, up to the left 2, up to the right 4. */
        int seenFromWall(long mown, int cell) {
            int bits = isSeenAlong(mown, cell, 0, 0) ? 1 : 0;
            bits |= isSeenAlong(mown, cell, -1, firstColumn) ? 2 : 0;
            bits |= isSeenAlong(mown, cell, 1, lastColumn) ? 4 : 0;
            return bits;
        }

        /** A line that slants may leave the meadow by a side's edge, too. */
        private boolean isSeenAlong(long mown, int from, int slant, long sideEdge) {
            int cell = from;
            for (int i = 0; i < MOST_HIGH; i++) {
                if (cell < wide || isIn(sideEdge, cell)) {
                    return true;
                }
                cell = cell - wide + slant;
                if (!isIn(mown, cell)) {
                    return false;
                }
            }
            return true;
        }
    }

    /** One walker on his way. */
    private static final class Walk {
        /** Cells and sides to face: who goes on for so many minutes has come into his ring. */
        private static final int MOST_STATES = MOST_CELLS * SIDES;

        private final int[] track = new int[LATEST_DUSK + 1];
        private final int[] cameFrom = new int[MOST_CELLS];
        private final int[] stepsToNoise = new int[MOST_CELLS];
        private Plan plan;
        private Walker walker;
        private long mown;
        private long been;
        private int cell;
        private int facing;
        private int seed;
        private int outMinute;
        private int lastMinute;

        Walk(Plan plan) {
            this.plan = plan;
            walker = plan.walker(0);
        }

        void begin(Plan newPlan, int number, long mownCells, int meadowSeed) {
            plan = newPlan;
            walker = plan.walker(number);
            mown = mownCells;
            cell = walker.cell;
            facing = walker.side;
            seed = (meadowSeed + number) % SEEDS;
            been = 0;
            enter(cell, NONE);
            if (walker.kind == COW) {
                plan.ground.measure(mown, plan.hasNoise() ? plan.noise : MOST_CELLS, stepsToNoise);
            }
        }

        void goTillDusk(Plan newPlan, int number, long mownCells, int meadowSeed) {
            begin(newPlan, number, mownCells, meadowSeed);
            outMinute = MISSING;
            lastMinute = MISSING;
            for (int minute = walker.leaves; minute <= plan.dusk && outMinute == MISSING; minute++) {
                if (minute > walker.leaves) {
                    step();
                }
                if (minute >= 0 && minute < track.length) {
                    track[minute] = cell;
                }
                lastMinute = minute;
                outMinute = isAtGate() ? minute : MISSING;
            }
        }

        int cellIn(int minute) {
            boolean there = minute >= walker.leaves && minute <= lastMinute;
            return there && minute >= 0 && minute < track.length ? track[minute] : MISSING;
        }

        int outIn() {
            return outMinute;
        }

        int countShouts() {
            int last = outMinute == MISSING ? plan.dusk : outMinute;
            return Math.max(0, last - walker.leaves);
        }

        int countCells() {
            return walker.leaves <= plan.dusk ? Long.bitCount(been) : 0;
        }

        boolean isOutSometime() {
            for (int i = 0; i < MOST_STATES && !isAtGate(); i++) {
                step();
            }
            return isAtGate();
        }

        /** Only for one who has been found never to be out: he is in his ring by then. */
        int ringLength() {
            int ringCell = cell;
            int ringFacing = facing;
            for (int minutes = 1; minutes < MOST_STATES; minutes++) {
                step();
                if (cell == ringCell && facing == ringFacing) {
                    return minutes;
                }
            }
            return MOST_STATES;
        }

        private boolean isAtGate() {
            return isIn(plan.gateCells, cell);
        }

        private void step() {
            switch (walker.kind) {
                case LEFT:
                    stepTurning(facing + 3, 1);
                    break;
                case RIGHT:
                    stepTurning(facing + 5, -1);
                    break;
                case ONCE:
                    stepOnce();
                    break;
                case COW:
                    stepToNoise();
                    break;
                default:
                    stepByLot();
                    break;
            }
        }

        /** The mown cell to one side; NONE without one. */
        private int mownTo(int side) {
            int next = plan.ground.cellTo(side, cell);
            return next != NONE && isIn(mown, next) ? next : NONE;
        }

        private void enter(int next, int from) {
            if (!isIn(been, next) && next >= 0 && next < cameFrom.length) {
                cameFrom[next] = from;
            }
            been |= bit(next);
            cell = next;
        }

        private void stepTurning(int first, int turn) {
            for (int i = 0; i < SIDES; i++) {
                int side = (first + turn * i) % SIDES;
                int next = mownTo(side);
                if (next != NONE) {
                    facing = side;
                    enter(next, cell);
                    return;
                }
            }
        }

        private void stepOnce() {
            for (int side = 0; side < SIDES; side++) {
                int next = mownTo(side);
                if (next != NONE && !isIn(been, next)) {
                    enter(next, cell);
                    return;
                }
            }
            int origin = cell >= 0 && cell < cameFrom.length ? cameFrom[cell] : NONE;
            if (origin != NONE && isIn(mown, origin)) {
                enter(origin, cell);
            }
        }

        private void stepToNoise() {
            if (cell == plan.noise) {
                return;
            }
            int nearest = NONE;
            int fewest = MOST_CELLS;
            for (int side = 0; side < SIDES; side++) {
                int next = mownTo(side);
                int steps = next >= 0 && next < stepsToNoise.length ? stepsToNoise[next] : MISSING;
                if (steps >= 0 && steps < fewest) {
                    fewest = steps;
                    nearest = next;
                }
            }
            if (nearest != NONE) {
                enter(nearest, cell);
            }
        }

        private void stepByLot() {
            int ways = plan.ground.countBeside(mown, cell);
            if (ways == 0) {
                return;
            }
            seed = draw(seed);
            int chosen = seed % ways;
            for (int side = 0; side < SIDES; side++) {
                int next = mownTo(side);
                if (next != NONE) {
                    if (chosen == 0) {
                        enter(next, cell);
                        return;
                    }
                    chosen--;
                }
            }
        }
    }

    /** Finds the fewest strokes for a few cells; cells to mow have numbers of their own here. */
    private static final class Scythe {
        private static final int SETS = 1 << MOST_TO_MOW;

        private final int[] besides = new int[MOST_TO_MOW];
        /** For each set of cells already mown: the fewest strokes, and where the last of so few can end. */
        private final int[] fewest = new int[SETS];
        private final int[] lasts = new int[SETS];

        int fewestStrokes(Ground ground, long todo) {
            int count = Math.min(MOST_TO_MOW, Long.bitCount(todo));
            findBesides(ground, todo, count);
            int sets = 1 << count;
            for (int set = 0; set < sets && set < fewest.length && set < lasts.length; set++) {
                fewest[set] = set == 0 ? 0 : MOST_TO_MOW + 1;
                lasts[set] = 0;
            }
            // Where only more than the fewest strokes end need not be kept: a new stroke is as good as going on there.
            for (int set = 0; set < sets; set++) {
                mowOneMore(set, count);
            }
            int whole = sets - 1;
            return whole >= 0 && whole < fewest.length ? fewest[whole] : 0;
        }

        private void findBesides(Ground ground, long todo, int count) {
            for (int i = 0; i < count && i < besides.length; i++) {
                long near = ground.besideAll(bit(nthCell(todo, i)));
                besides[i] = 0;
                for (int j = 0; j < count; j++) {
                    if (isIn(near, nthCell(todo, j))) {
                        besides[i] |= 1 << j;
                    }
                }
            }
        }

        private void mowOneMore(int set, int count) {
            if (set < 0 || set >= fewest.length || set >= lasts.length) {
                return;
            }
            for (int i = 0; i < count && i < besides.length; i++) {
                int more = set | 1 << i;
                if (more != set && more < fewest.length && more < lasts.length) {
                    int strokes = (besides[i] & lasts[set]) != 0 ? fewest[set] : fewest[set] + 1;
                    if (strokes < fewest[more]) {
                        fewest[more] = strokes;
                        lasts[more] = 0;
                    }
                    if (strokes == fewest[more]) {
                        lasts[more] |= 1 << i;
                    }
                }
            }
        }
    }

    /** What can be undone, and the marks. */
    private static final class History {
        private static final int MOST_ACTS = 20;
        private static final int MOST_MARKS = 3;

        private final long[] actCells = new long[MOST_ACTS];
        private final int[] actSeeds = new int[MOST_ACTS];
        private final long[] markCells = new long[MOST_MARKS];
        private final int[] markSeeds = new int[MOST_MARKS];
        private int acts;
        private int marks;

        void forget() {
            acts = 0;
            marks = 0;
        }

        void forgetActs() {
            acts = 0;
        }

        int actCount() {
            return acts;
        }

        int markCount() {
            return marks;
        }

        void keepAct(long cells, int seed) {
            if (acts >= MOST_ACTS) {
                System.arraycopy(actCells, 1, actCells, 0, MOST_ACTS - 1);
                System.arraycopy(actSeeds, 1, actSeeds, 0, MOST_ACTS - 1);
                acts = MOST_ACTS - 1;
            }
            if (acts >= 0 && acts < actCells.length && acts < actSeeds.length) {
                actCells[acts] = cells;
                actSeeds[acts] = seed;
                acts++;
            }
        }

        long latestCells() {
            return acts > 0 && acts <= actCells.length ? actCells[acts - 1] : 0;
        }

        int latestSeed() {
            return acts > 0 && acts <= actSeeds.length ? actSeeds[acts - 1] : 0;
        }

        void dropLatest() {
            if (acts > 0) {
                acts--;
            }
        }

        int addMark(long cells, int seed) {
            if (marks < 0 || marks >= markCells.length || marks >= markSeeds.length) {
                return NONE;
            }
            markCells[marks] = cells;
            markSeeds[marks] = seed;
            marks++;
            return marks - 1;
        }

        boolean hasMark(int mark) {
            return mark >= 0 && mark < marks;
        }

        long markedCells(int mark) {
            return mark >= 0 && mark < markCells.length ? markCells[mark] : 0;
        }

        int markedSeed(int mark) {
            return mark >= 0 && mark < markSeeds.length ? markSeeds[mark] : 0;
        }
    }
}
