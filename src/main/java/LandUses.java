import java.util.NoSuchElementException;

/**
 * A land of ten by six squares with their uses and soils, a book of lines that tells what they are
 * worth, which laws must hold and how uses grow, and the best way to give uses to the free squares.
 *
 * <p>A set of squares is a long throughout: its bit n stands for the square of number n.
 */
public final class LandUses {
    public static final int NONE = -1;

    private static final int WIDTH = 10;
    private static final int HEIGHT = 6;
    private static final int SQUARES = WIDTH * HEIGHT;
    private static final int WILD = 0;
    private static final int HOMES = 1;
    private static final int WORKS = 2;
    private static final int FARMS = 3;
    private static final int WOODS = 4;
    private static final int USES = 5;
    private static final int HIGHEST_SOIL = 9;
    private static final int MOST_FREE = 5;
    private static final int MOST_LINES = 14;
    private static final int MOST_STEPS = 5;
    private static final int MOST_PLANS = 6;
    private static final int MOST_YEARS_AT_ONCE = 20;
    private static final int LAST_YEAR = 1000;

    private final Tape tape;
    private final Reader reader;
    private final Land land;
    private final Search search;
    private final Uses nextUses;
    private final Uses[] plans;
    private Book lines;
    private Book spareLines;
    private long freeSquares;
    private int gateSquare;
    private int planCount;
    private int year;
    private int wrongByte;
    private boolean searched;

    public LandUses() {
        tape = new Tape();
        reader = new Reader(tape);
        land = new Land();
        nextUses = new Uses();
        plans = new Uses[MOST_PLANS];
        for (int i = 0; i < MOST_PLANS; i++) {
            plans[i] = new Uses();
        }
        lines = new Book();
        spareLines = new Book();
        search = new Search(land, lines);
        freeSquares = 0;
        gateSquare = 0;
        planCount = 0;
        year = 0;
        wrongByte = NONE;
        searched = false;
    }

    public int feed(int a, int b, int c, int d, int e) {
        if (!tape.hasRoom()) {
            return NONE;
        }
        tape.append(a);
        tape.append(b);
        tape.append(c);
        tape.append(d);
        tape.append(e);
        return tape.length;
    }

    public boolean end(int n) {
        if (n < 0 || n > tape.length) {
            return false;
        }
        tape.length = n;
        return true;
    }

    public int use(int from, int to, int use) throws IndexOutOfBoundsException, IllegalArgumentException {
        checkSquare(from);
        checkSquare(to);
        if (use < 0 || use >= USES) {
            throw new IllegalArgumentException("no such use");
        }
        searched = false;
        return land.uses.put(Squares.rectangle(from, to), use);
    }

    public void soil(int from, int to, int soil) throws IndexOutOfBoundsException, IllegalArgumentException {
        checkSquare(from);
        checkSquare(to);
        if (soil < 0 || soil > HIGHEST_SOIL) {
            throw new IllegalArgumentException("no such soil");
        }
        searched = false;
        land.putSoil(Squares.rectangle(from, to), soil);
    }

    public boolean free(int square, boolean is) throws IndexOutOfBoundsException {
        checkSquare(square);
        if (Squares.has(freeSquares, square) == is) {
            return false;
        }
        if (is && Long.bitCount(freeSquares) >= MOST_FREE) {
            return false;
        }
        searched = false;
        freeSquares ^= Squares.only(square);
        return true;
    }

    public void gate(int square) throws IndexOutOfBoundsException {
        checkSquare(square);
        gateSquare = square;
    }

    public int book() throws IllegalArgumentException {
        wrongByte = reader.readInto(spareLines);
        tape.length = 0;
        if (wrongByte != NONE) {
            throw new IllegalArgumentException("the text is wrong");
        }
        Book old = lines;
        lines = spareLines;
        spareLines = old;
        searched = false;
        return lines.count;
    }

    public int fault() {
        return wrongByte;
    }

    public int worth() {
        return lines.worthOf(land);
    }

    public int adds(int line) throws IndexOutOfBoundsException {
        checkLine(line);
        return lines.rows[line].worthOf(land);
    }

    public int broken() {
        return lines.firstBroken(land);
    }

    public int years(int n) throws IllegalArgumentException {
        if (n < 0 || n > MOST_YEARS_AT_ONCE) {
            throw new IllegalArgumentException("not 0 to 20 years");
        }
        searched = false;
        for (int i = 0; i < n && year < LAST_YEAR; i++) {
            lines.growInto(nextUses, land);
            land.uses.become(nextUses);
            year++;
        }
        return year;
    }

    public boolean can() {
        return bestSearch().found;
    }

    public int best() throws NoSuchElementException {
        Search result = bestSearch();
        if (!result.found) {
            throw new NoSuchElementException("there is no best");
        }
        return result.bestWorth;
    }

    public int given(int square) throws IndexOutOfBoundsException {
        checkSquare(square);
        Search result = bestSearch();
        return result.found ? result.bestUses.useOf(square) : NONE;
    }

    public boolean take() {
        Search result = bestSearch();
        if (!result.found) {
            return false;
        }
        land.uses.become(result.bestUses);
        searched = false;
        return true;
    }

    public int cost(int line) throws IndexOutOfBoundsException, NoSuchElementException {
        checkLine(line);
        if (!lines.rows[line].isLaw()) {
            throw new NoSuchElementException("the line is no law");
        }
        Search result = bestSearch();
        if (!result.found) {
            throw new NoSuchElementException("there is no best");
        }
        return Math.max(result.bestWorth, result.worthBreaking[line]) - result.bestWorth;
    }

    public int look(int square, int what) throws IndexOutOfBoundsException, NoSuchElementException {
        checkSquare(square);
        switch (what) {
            case 0:
                return land.uses.useOf(square);
            case 1:
                return land.soils[square];
            case 2:
                return Squares.has(freeSquares, square) ? 1 : 0;
            case 3:
                return land.uses.likeBeside(square);
            default:
                throw new NoSuchElementException("no such thing to look at");
        }
    }

    public int keep() {
        if (planCount >= MOST_PLANS) {
            return NONE;
        }
        plans[planCount].become(land.uses);
        planCount++;
        return planCount - 1;
    }

    public int unlike(int a, int b) throws IndexOutOfBoundsException {
        return planOrLand(a).differencesFrom(planOrLand(b));
    }

    public int back(int plan) throws IndexOutOfBoundsException {
        checkPlan(plan);
        int changes = land.uses.differencesFrom(plans[plan]);
        land.uses.become(plans[plan]);
        searched = false;
        return changes;
    }

    public int far() {
        long homes = land.uses.of(HOMES);
        long open = Squares.ALL & ~land.uses.of(WOODS);
        return Squares.stepsToAll(homes, gateSquare, open);
    }

    public int count(int what) {
        if (what >= 0 && what < USES) {
            return Long.bitCount(land.uses.of(what));
        }
        switch (what) {
            case 5:
                return Long.bitCount(freeSquares);
            case 6:
                return lines.count;
            case 7:
                return lines.countLaws();
            case 8:
                return planCount;
            case 9:
                return year;
            default:
                return NONE;
        }
    }

    /** The search is dear, so its answer is kept until something that it looks at changes. */
    private Search bestSearch() {
        if (!searched) {
            search.run(land, lines, freeSquares);
            searched = true;
        }
        return search;
    }

    private Uses planOrLand(int plan) {
        if (plan == NONE) {
            return land.uses;
        }
        checkPlan(plan);
        return plans[plan];
    }

    private void checkPlan(int plan) {
        if (plan < 0 || plan >= planCount) {
            throw new IndexOutOfBoundsException("no such plan");
        }
    }

    private void checkLine(int line) {
        if (line < 0 || line >= lines.count) {
            throw new IndexOutOfBoundsException("no such line");
        }
    }

    private static void checkSquare(int square) {
        if (square < 0 || square >= SQUARES) {
            throw new IndexOutOfBoundsException("no such square");
        }
    }

    /** Functions over sets of squares. */
    private static final class Squares {
        private static final long ALL = (1L << SQUARES) - 1;
        private static final long LEFT_COLUMN = 1L | 1L << 10 | 1L << 20 | 1L << 30 | 1L << 40 | 1L << 50;
        private static final long RIGHT_COLUMN = LEFT_COLUMN << (WIDTH - 1);

        static long only(int square) {
            return 1L << square;
        }

        static boolean has(long set, int square) {
            return (set & only(square)) != 0;
        }

        static long rectangle(int from, int to) {
            int left = Math.min(from % WIDTH, to % WIDTH);
            int right = Math.max(from % WIDTH, to % WIDTH);
            int top = Math.min(from / WIDTH, to / WIDTH);
            int bottom = Math.max(from / WIDTH, to / WIDTH);
            long row = ((1L << (right - left + 1)) - 1) << left;
            long set = 0;
            for (int y = top; y <= bottom; y++) {
                set |= row << (WIDTH * y);
            }
            return set;
        }

        /** All other squares that are so many king's steps from a square at most. */
        static long around(int square, int steps) {
            int x = square % WIDTH;
            int y = square / WIDTH;
            int left = Math.max(0, x - steps);
            int right = Math.min(WIDTH - 1, x + steps);
            int top = Math.max(0, y - steps);
            int bottom = Math.min(HEIGHT - 1, y + steps);
            return rectangle(WIDTH * top + left, WIDTH * bottom + right) & ~only(square);
        }

        /** The squares beside those of a set; some of them may be of the set itself. */
        static long beside(long set) {
            long upAndDown = set << WIDTH | set >>> WIDTH;
            long rightAndLeft = (set & ~RIGHT_COLUMN) << 1 | (set & ~LEFT_COLUMN) >>> 1;
            return (upAndDown | rightAndLeft) & ALL;
        }

        static boolean isJoined(long set) {
            long lowest = set & -set;
            long reached = lowest;
            for (int i = 0; i < SQUARES; i++) {
                long next = reached | beside(reached) & set;
                if (next == reached) {
                    break;
                }
                reached = next;
            }
            return reached == set;
        }

        /** By how many steps over open squares all goals are reached from a square; NONE if one never is. */
        static int stepsToAll(long goals, int from, long open) {
            long reached = only(from);
            for (int steps = 0; steps < SQUARES; steps++) {
                if ((goals & ~reached) == 0) {
                    return steps;
                }
                reached |= beside(reached) & open;
            }
            return NONE;
        }
    }

    /** For each use the set of its squares. */
    private static final class Uses {
        private final long[] sets;

        Uses() {
            sets = new long[USES];
            sets[WILD] = Squares.ALL;
        }

        long of(int use) {
            return sets[use];
        }

        int useOf(int square) {
            for (int use = 0; use < USES; use++) {
                if (Squares.has(sets[use], square)) {
                    return use;
                }
            }
            return NONE;
        }

        /** All squares of a set get a use: how many had another one. */
        int put(long set, int use) {
            int changes = Long.bitCount(set & ~sets[use]);
            lift(set);
            sets[use] |= set;
            return changes;
        }

        /** The squares of a set have no use at all until they are put again. */
        void lift(long set) {
            for (int use = 0; use < USES; use++) {
                sets[use] &= ~set;
            }
        }

        void become(Uses other) {
            for (int use = 0; use < USES; use++) {
                sets[use] = other.sets[use];
            }
        }

        int differencesFrom(Uses other) {
            int same = 0;
            for (int use = 0; use < USES; use++) {
                same += Long.bitCount(sets[use] & other.sets[use]);
            }
            return SQUARES - same;
        }

        int likeBeside(int square) {
            long beside = Squares.beside(Squares.only(square));
            int like = 0;
            for (int use = 0; use < USES; use++) {
                if (Squares.has(sets[use], square)) {
                    like += Long.bitCount(beside & sets[use]);
                }
            }
            return like;
        }
    }

    /** Uses and soils, and which squares are near which. */
    private static final class Land {
        private final Uses uses;
        private final int[] soils;
        private final long[][] around;

        Land() {
            uses = new Uses();
            soils = new int[SQUARES];
            around = new long[MOST_STEPS + 1][SQUARES];
            for (int steps = 0; steps <= MOST_STEPS; steps++) {
                for (int square = 0; square < SQUARES; square++) {
                    around[steps][square] = Squares.around(square, steps);
                }
            }
        }

        /** A land of other uses on the same ground. */
        Land(Land ground) {
            uses = new Uses();
            soils = ground.soils;
            around = ground.around;
        }

        void putSoil(long set, int soil) {
            for (int square = 0; square < SQUARES; square++) {
                if (Squares.has(set, square)) {
                    soils[square] = soil;
                }
            }
        }

        /** How many other squares of a use are so many steps from a square at most. */
        int countAround(int square, int steps, int use) {
            return Long.bitCount(around[steps][square] & uses.sets[use]);
        }

        /** How many pairs there are of a square of one use and another square of the other use near it. */
        int countPairs(int one, int other, int steps) {
            long ones = uses.of(one);
            int pairs = 0;
            for (int square = 0; square < SQUARES; square++) {
                if (Squares.has(ones, square)) {
                    pairs += countAround(square, steps, other);
                }
            }
            return pairs;
        }

        int countOnSoil(int use, int leastSoil) {
            long set = uses.of(use);
            int squares = 0;
            for (int square = 0; square < SQUARES; square++) {
                if (Squares.has(set, square) && soils[square] >= leastSoil) {
                    squares++;
                }
            }
            return squares;
        }
    }

    /** One line of the book. */
    private static final class Line {
        private static final int NEAR = 0;
        private static final int ON = 1;
        private static final int APART = 2;
        private static final int LEAST = 3;
        private static final int MOST = 4;
        private static final int JOINED = 5;
        private static final int GROW = 6;

        private int kind;
        private int use;
        private int otherUse;
        private int grownUse;
        private int steps;
        private int leastSoil;
        /** A worth (below 0 with minus), a law's bound, or how many squares growth needs. */
        private int number;

        boolean isLaw() {
            return kind == APART || kind == LEAST || kind == MOST || kind == JOINED;
        }

        int worthOf(Land land) {
            switch (kind) {
                case NEAR:
                    return number * land.countPairs(use, otherUse, steps);
                case ON:
                    return number * land.countOnSoil(use, leastSoil);
                default:
                    return 0;
            }
        }

        /** How much more the line is worth, if a square that is lifted gets a use. */
        int worthOfPutting(Land land, int square, int newUse) {
            if (kind == NEAR) {
                return number * countNewPairs(land.around[steps][square], land.uses, newUse);
            }
            if (kind == ON && newUse == use && land.soils[square] >= leastSoil) {
                return number;
            }
            return 0;
        }

        boolean isBroken(Land land) {
            return kind == APART ? isBrokenByPair(land) : isBrokenByWhole(land);
        }

        /** Once broken by a pair of squares, a law stays broken whatever is put on other ones. */
        boolean isBrokenByPair(Land land) {
            return kind == APART && land.countPairs(use, otherUse, steps - 1) > 0;
        }

        boolean isBrokenByPutting(Land land, int square, int newUse) {
            return kind == APART && countNewPairs(land.around[steps - 1][square], land.uses, newUse) > 0;
        }

        /** How many pairs of the line's uses come by a square that gets a use, in each order of the two. */
        private int countNewPairs(long around, Uses uses, int newUse) {
            int pairs = 0;
            if (newUse == use) {
                pairs += Long.bitCount(around & uses.sets[otherUse]);
            }
            if (newUse == otherUse) {
                pairs += Long.bitCount(around & uses.sets[use]);
            }
            return pairs;
        }

        /** Whether a law is broken for which all squares of its use must be known. */
        boolean isBrokenByWhole(Land land) {
            long set = land.uses.of(use);
            switch (kind) {
                case LEAST:
                    return Long.bitCount(set) < number;
                case MOST:
                    return Long.bitCount(set) > number;
                case JOINED:
                    return !Squares.isJoined(set);
                default:
                    return false;
            }
        }

        boolean growsOn(Land land, int square) {
            return kind == GROW
                    && Squares.has(land.uses.of(use), square)
                    && land.countAround(square, steps, otherUse) >= number;
        }
    }

    /** The lines in their order. All rows are there from the first; those from count on do not count. */
    private static final class Book {
        private final Line[] rows;
        private int count;

        Book() {
            rows = new Line[MOST_LINES];
            for (int i = 0; i < MOST_LINES; i++) {
                rows[i] = new Line();
            }
            count = 0;
        }

        int countLaws() {
            int laws = 0;
            for (int i = 0; i < count; i++) {
                if (rows[i].isLaw()) {
                    laws++;
                }
            }
            return laws;
        }

        int worthOf(Land land) {
            int sum = 0;
            for (int i = 0; i < count; i++) {
                sum += rows[i].worthOf(land);
            }
            return sum;
        }

        int worthOfPutting(Land land, int square, int use) {
            int sum = 0;
            for (int i = 0; i < count; i++) {
                sum += rows[i].worthOfPutting(land, square, use);
            }
            return sum;
        }

        int firstBroken(Land land) {
            for (int i = 0; i < count; i++) {
                if (rows[i].isBroken(land)) {
                    return i;
                }
            }
            return NONE;
        }

        /** The laws that are broken by a pair; bit i stands for line i, here and below. */
        int brokenByPair(Land land) {
            int bits = 0;
            for (int i = 0; i < count; i++) {
                if (rows[i].isBrokenByPair(land)) {
                    bits |= 1 << i;
                }
            }
            return bits;
        }

        int brokenByPutting(Land land, int square, int use) {
            int bits = 0;
            for (int i = 0; i < count; i++) {
                if (rows[i].isBrokenByPutting(land, square, use)) {
                    bits |= 1 << i;
                }
            }
            return bits;
        }

        int brokenByWhole(Land land) {
            int bits = 0;
            for (int i = 0; i < count; i++) {
                if (rows[i].isBrokenByWhole(land)) {
                    bits |= 1 << i;
                }
            }
            return bits;
        }

        /** What the uses of a land are a year later. */
        void growInto(Uses next, Land land) {
            next.become(land.uses);
            for (int square = 0; square < SQUARES; square++) {
                for (int i = 0; i < count; i++) {
                    if (rows[i].growsOn(land, square)) {
                        next.put(Squares.only(square), rows[i].grownUse);
                        break;
                    }
                }
            }
        }
    }

    /**
     * Goes through all ways to give uses to the free squares. A way that breaks one law alone is of
     * use too: it is one of those that there would be without that law, so one search tells all costs.
     */
    private static final class Search {
        /** Far below what any land can be worth: 14 lines of 99 for 60 times 59 pairs. */
        private static final int BELOW_ANY_WORTH = -1_000_000_000;

        private final Land trial;
        private final int[] squares;
        private final Uses bestUses;
        private final int[] worthBreaking;
        private Book lines;
        private int squareCount;
        private boolean found;
        private int bestWorth;

        Search(Land ground, Book book) {
            trial = new Land(ground);
            squares = new int[MOST_FREE];
            bestUses = new Uses();
            worthBreaking = new int[MOST_LINES];
            lines = book;
            squareCount = 0;
            found = false;
            bestWorth = 0;
        }

        void run(Land land, Book book, long freeSquares) {
            lines = book;
            found = false;
            bestWorth = 0;
            for (int i = 0; i < MOST_LINES; i++) {
                worthBreaking[i] = BELOW_ANY_WORTH;
            }
            listSquares(freeSquares);
            trial.uses.become(land.uses);
            trial.uses.lift(freeSquares);
            putFrom(0, book.worthOf(trial), book.brokenByPair(trial));
        }

        private void listSquares(long set) {
            squareCount = 0;
            for (int square = 0; square < SQUARES; square++) {
                if (Squares.has(set, square) && squareCount < MOST_FREE) {
                    squares[squareCount] = square;
                    squareCount++;
                }
            }
        }

        private void putFrom(int depth, int worthSoFar, int brokenSoFar) {
            if (Integer.bitCount(brokenSoFar) > 1) {
                return;
            }
            if (depth >= squareCount) {
                judge(worthSoFar, brokenSoFar | lines.brokenByWhole(trial));
                return;
            }
            int square = squares[depth];
            for (int use = HOMES; use <= WOODS; use++) {
                int more = lines.worthOfPutting(trial, square, use);
                int hurt = lines.brokenByPutting(trial, square, use);
                trial.uses.put(Squares.only(square), use);
                putFrom(depth + 1, worthSoFar + more, brokenSoFar | hurt);
                trial.uses.lift(Squares.only(square));
            }
        }

        /** Ways come in the order in which of several the first is the best, so a later one must be worth more. */
        private void judge(int worthOfWay, int brokenLaws) {
            if (brokenLaws == 0 && (!found || worthOfWay > bestWorth)) {
                found = true;
                bestWorth = worthOfWay;
                bestUses.become(trial.uses);
            }
            for (int i = 0; i < MOST_LINES; i++) {
                if (brokenLaws == 1 << i) {
                    worthBreaking[i] = Math.max(worthBreaking[i], worthOfWay);
                }
            }
        }
    }

    /** The bytes that came and are not used up. */
    private static final class Tape {
        private static final int MOST_BYTES = 400;
        private static final int BYTES_AT_ONCE = 20;

        private final byte[] bytes;
        private int length;

        Tape() {
            bytes = new byte[MOST_BYTES];
            length = 0;
        }

        boolean hasRoom() {
            return length <= MOST_BYTES - BYTES_AT_ONCE;
        }

        void append(int number) {
            for (int shift = 24; shift >= 0 && length < MOST_BYTES; shift -= 8) {
                bytes[length] = (byte) (number >> shift);
                length++;
            }
        }

        /** The byte at a place, 0 to 255; NONE behind the last one. */
        int at(int place) {
            return place >= 0 && place < length ? bytes[place] & 255 : NONE;
        }
    }

    /**
     * Reads the tape as a book. The first thing that cannot stand where it is, is kept as the wrong
     * one; what is read behind it changes that no more, and the book is not used then.
     */
    private static final class Reader {
        private final Tape tape;
        private int place;
        private int wrongPlace;

        Reader(Tape tape) {
            this.tape = tape;
            place = 0;
            wrongPlace = NONE;
        }

        /** The first wrong byte; NONE if the text is right. */
        int readInto(Book book) {
            place = 0;
            wrongPlace = NONE;
            book.count = 0;
            skipBlanks();
            boolean more = tape.at(place) != NONE;
            while (more && book.count < MOST_LINES) {
                readLine(book.rows[book.count]);
                book.count++;
                more = readSemicolon();
            }
            if (more) {
                skipBlanks();
                refuseNext();
            }
            return wrongPlace;
        }

        /** Whether a line must follow. */
        private boolean readSemicolon() {
            skipBlanks();
            if (wrongPlace != NONE || tape.at(place) == NONE) {
                return false;
            }
            if (tape.at(place) != ';') {
                refuseNext();
                return false;
            }
            place++;
            return true;
        }

        private void readLine(Line line) {
            if (skipWord("law")) {
                readLaw(line);
            } else if (skipWord("grow")) {
                readGrow(line);
            } else {
                readWorth(line);
            }
        }

        private void readWorth(Line line) {
            line.use = readUse();
            int sign = skipWord("minus") ? -1 : 1;
            line.number = sign * readNumber(0, 99);
            if (skipWord("near")) {
                line.kind = Line.NEAR;
                line.otherUse = readUse();
                line.steps = readNumber(1, MOST_STEPS);
            } else if (skipWord("on")) {
                line.kind = Line.ON;
                line.leastSoil = readNumber(0, HIGHEST_SOIL);
            } else {
                refuseNext();
            }
        }

        private void readLaw(Line line) {
            line.use = readUse();
            if (skipWord("apart")) {
                line.kind = Line.APART;
                line.otherUse = readUse();
                line.steps = readNumber(1, MOST_STEPS);
            } else if (skipWord("least")) {
                line.kind = Line.LEAST;
                line.number = readNumber(0, 99);
            } else if (skipWord("most")) {
                line.kind = Line.MOST;
                line.number = readNumber(0, 99);
            } else if (skipWord("joined")) {
                line.kind = Line.JOINED;
            } else {
                refuseNext();
            }
        }

        private void readGrow(Line line) {
            line.kind = Line.GROW;
            line.use = readUse();
            readWord("to");
            line.grownUse = readUse();
            readWord("when");
            line.otherUse = readUse();
            readWord("near");
            line.steps = readNumber(1, MOST_STEPS);
            line.number = readNumber(1, SQUARES);
        }

        private int readUse() {
            if (skipWord("wild")) {
                return WILD;
            }
            if (skipWord("homes")) {
                return HOMES;
            }
            if (skipWord("works")) {
                return WORKS;
            }
            if (skipWord("farms")) {
                return FARMS;
            }
            if (skipWord("woods")) {
                return WOODS;
            }
            refuseNext();
            return WILD;
        }

        private void readWord(String word) {
            if (!skipWord(word)) {
                refuseNext();
            }
        }

        private int readNumber(int least, int most) {
            skipBlanks();
            int digits = runLength('0', '9');
            if (digits < 1 || digits > 2) {
                refuseNext();
                return least;
            }
            int number = 0;
            for (int i = 0; i < digits; i++) {
                number = 10 * number + tape.at(place + i) - '0';
            }
            if (number < least || number > most) {
                refuseNext();
                return least;
            }
            place += digits;
            return number;
        }

        /** Goes behind a word, if it is the next thing. */
        private boolean skipWord(String word) {
            skipBlanks();
            int letters = runLength('a', 'z');
            if (letters != word.length()) {
                return false;
            }
            for (int i = 0; i < letters; i++) {
                if (tape.at(place + i) != word.charAt(i)) {
                    return false;
                }
            }
            place += letters;
            return true;
        }

        /** The next thing is wrong; blanks ahead of it have been skipped. */
        private void refuseNext() {
            if (wrongPlace == NONE) {
                wrongPlace = place;
            }
        }

        private void skipBlanks() {
            while (place < tape.length && tape.at(place) == ' ') {
                place++;
            }
        }

        /** For how many bytes from here on they are of a span. */
        private int runLength(char first, char last) {
            int length = 0;
            while (length < tape.length && tape.at(place + length) >= first && tape.at(place + length) <= last) {
                length++;
            }
            return length;
        }
    }
}
