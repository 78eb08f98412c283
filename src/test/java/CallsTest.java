import java.util.NoSuchElementException;

/** The sentences of the promises that name a bound: at it, and on both sides of it. */
public final class CallsTest {
    private static final Class<IndexOutOfBoundsException> INDEX = IndexOutOfBoundsException.class;
    private static final Class<IllegalArgumentException> ARGUMENT = IllegalArgumentException.class;
    private static final Class<NoSuchElementException> NO_SUCH = NoSuchElementException.class;
    private static final int LOW = Integer.MIN_VALUE;
    private static final int HIGH = Integer.MAX_VALUE;
    private static final int BLANKS = 0x20202020;

    public static void main(String[] args) {
        feedUpTo400();
        feedBytesInOrder();
        endWithAsManyOrFewer();
        useHowManyHadAnotherOne();
        freeThatAlready();
        gateStaysUntilTheNext();
        linesOfABook();
        years0To20();
        yearsAsFarAsYearMayGo();
        bestOfNoFreeSquares();
        bestGivesNoWild();
        bestOthersStay();
        bestOfSeveralTheLeastUses();
        bestWhoseFreeSquaresHaveUses();
        bestByAllLaws();
        bestByLawsOfSquaresThatAreNotFree();
        bestOfEachPairOnce();
        givenWithoutOne();
        takeTakesAll();
        costWithAndWithout();
        costOfOneLawOfTwo();
        costOfFourteenLaws();
        lookWhat0To3();
        plansOfEachCount();
        backChangesUsesAlone();
        countWhat0To9();
        Checks.finish();
    }

    private static void due(String what, Object got, Object want) {
        Checks.due(what, got, want);
    }

    private static int feedBlanks(LandUses x) {
        return x.feed(BLANKS, BLANKS, BLANKS, BLANKS, BLANKS);
    }

    private static LandUses withTape(int length) {
        LandUses x = new LandUses();
        for (int i = 0; i < 20; i++) {
            feedBlanks(x);
        }
        x.end(length);
        return x;
    }

    /** Of each length: twenty more, or none if there would be more than 400. */
    private static void feedUpTo400() {
        for (int length = 0; length <= 400; length++) {
            LandUses x = withTape(length);
            boolean room = length <= 380;
            due("feed behind " + length, feedBlanks(x), room ? length + 20 : -1);
            int now = room ? length + 20 : length;
            due("no more than " + now, x.end(now + 1), false);
            due("as many as " + now, x.end(now), true);
        }
    }

    private static void feedBytesInOrder() {
        LandUses x = new LandUses();
        // "wild 12 on 0;law wild most 60" by hand: highest byte first, first number first
        due("feed", x.feed(0x77696c64, 0x20313220, 0x6f6e2030, 0x3b6c6177, 0x2077696c), 20);
        due("feed behind it", x.feed(0x64206d6f, 0x73742036, 0x30202020, BLANKS, BLANKS), 40);
        due("two lines", x.book(), 2);
        due("worth 12", x.worth(), 720);
        due("a law", x.count(7), 1);
        for (int i = 0; i < 20; i++) {
            int[] numbers = {BLANKS, BLANKS, BLANKS, BLANKS, BLANKS};
            numbers[i / 4] = BLANKS & ~(255 << 24 - 8 * (i % 4)) | 0xff << 24 - 8 * (i % 4);
            LandUses one = new LandUses();
            one.feed(numbers[0], numbers[1], numbers[2], numbers[3], numbers[4]);
            Checks.dueThrows("byte 255 at " + i, one::book, ARGUMENT);
            due("byte " + i, one.fault(), i);
        }
    }

    private static void endWithAsManyOrFewer() {
        for (int length : new int[] {0, 1, 2, 19, 20, 21, 200, 399, 400}) {
            for (int n : new int[] {LOW, -400, -2, -1, 0, 1, length - 1, length, length + 1, length + 2, 401, HIGH}) {
                LandUses x = withTape(length);
                boolean can = n >= 0 && n <= length;
                due("end(" + n + ") of " + length, x.end(n), can);
                int now = can ? n : length;
                due("it has not more than " + now, x.end(now + 1), false);
                due("it has " + now, x.end(now), true);
            }
        }
        LandUses x = new LandUses();
        Checks.write(x, "law wild joinedxxxx");
        due("cut", x.end(15), true);
        due("what is cut is gone", x.end(19), false);
        due("the next come where it was cut", feedBlanks(x), 35);
        due("its first bytes stay", x.book(), 1);
    }

    private static void useHowManyHadAnotherOne() {
        LandUses x = new LandUses();
        due("wild land, wild", x.use(0, 59, 0), 0);
        due("all", x.use(0, 59, 1), 60);
        due("none", x.use(59, 0, 1), 0);
        due("one", x.use(59, 59, 2), 1);
        due("all but one", x.use(9, 50, 2), 59);
        due("a row", x.use(20, 29, 3), 10);
        due("a column over it", x.use(4, 54, 3), 5);
        due("a square of it", x.use(24, 24, 3), 0);
        due("one of another", x.use(24, 25, 4), 2);
    }

    private static void freeThatAlready() {
        LandUses x = new LandUses();
        due("not free, not", x.free(0, false), false);
        due("not free, free", x.free(0, true), true);
        due("free, free", x.free(0, true), false);
        due("free, not", x.free(0, false), true);
        due("not free any more, not", x.free(0, false), false);
        due("none are free", x.count(5), 0);
        for (int square = 55; square < 60; square++) {
            due("free " + square, x.free(square, true), true);
        }
        for (int square = 0; square < 60; square++) {
            due("a sixth, or one of the five: " + square, x.free(square, true), false);
        }
        due("five", x.count(5), 5);
        due("the use of a free square stays", x.use(59, 59, 2), 1);
        due("it is still free", x.look(59, 2), 1);
    }

    private static void gateStaysUntilTheNext() {
        for (int square = 0; square < 60; square++) {
            LandUses x = new LandUses();
            x.gate(0);
            x.gate(square);
            x.use(0, 0, 1);
            due("rows and columns from 0 to gate " + square, x.far(), square / 10 + square % 10);
            x.use(0, 0, 0);
            x.use(9, 9, 1);
            due("rows and columns from 9 to gate " + square, x.far(), square / 10 + 9 - square % 10);
        }
    }

    private static String laws(int n) {
        StringBuilder text = new StringBuilder();
        for (int i = 0; i < n; i++) {
            text.append(i > 0 ? ";" : "").append("law wild least ").append(i);
        }
        return text.toString();
    }

    /** Books of 0 to 14 lines: adds and cost of each line, and of none beside them. */
    private static void linesOfABook() {
        for (int lines = 0; lines <= 14; lines++) {
            LandUses x = new LandUses();
            due("a book of " + lines, Checks.bookOf(x, laws(lines)), lines);
            due("lines", x.count(6), lines);
            due("laws", x.count(7), lines);
            for (int line : new int[] {LOW, -2, -1, 0, 1, lines - 1, lines, lines + 1, 13, 14, 15, HIGH}) {
                if (line >= 0 && line < lines) {
                    due("adds of a law", x.adds(line), 0);
                    due("cost of a law that holds", x.cost(line), 0);
                } else {
                    Checks.dueThrows("adds(" + line + ") of " + lines, () -> x.adds(line), INDEX);
                    Checks.dueThrows("cost(" + line + ") of " + lines, () -> x.cost(line), INDEX);
                }
            }
        }
    }

    private static void years0To20() {
        for (int n : new int[] {LOW, -20, -2, -1, 0, 1, 2, 19, 20, 21, 22, 1000, HIGH}) {
            LandUses x = new LandUses();
            if (n >= 0 && n <= 20) {
                due("years(" + n + ")", x.years(n), n);
            } else {
                Checks.dueThrows("years(" + n + ")", () -> x.years(n), ARGUMENT);
            }
            due("year after years(" + n + ")", x.count(9), n >= 0 && n <= 20 ? n : 0);
        }
    }

    /** A long lane of wild squares between woods, along which homes grow a step each year. */
    private static LandUses lane(int year) {
        LandUses x = new LandUses();
        for (int i = 0; i < year / 20; i++) {
            x.years(20);
        }
        x.years(year % 20);
        Checks.bookOf(x, "grow wild to homes when homes near 1 1");
        x.use(0, 59, 4);
        x.use(0, 9, 0);
        x.use(19, 19, 0);
        x.use(20, 29, 0);
        x.use(30, 30, 0);
        x.use(40, 49, 0);
        x.use(0, 0, 1);
        return x;
    }

    private static void yearsAsFarAsYearMayGo() {
        int[] homes = new int[21];
        LandUses first = lane(0);
        homes[0] = first.count(1);
        for (int n = 1; n <= 20; n++) {
            first.years(1);
            homes[n] = first.count(1);
            due("more homes each year", homes[n] > homes[n - 1], true);
            LandUses atOnce = lane(0);
            due("years at once", atOnce.years(n), n);
            due("grow as one by one", atOnce.count(1), homes[n]);
        }
        for (int begin : new int[] {979, 980, 981, 990, 998, 999, 1000}) {
            for (int n = 0; n <= 20; n++) {
                LandUses x = lane(begin);
                int due = Math.min(1000, begin + n);
                due("years(" + n + ") from " + begin, x.years(n), due);
                due("homes then", x.count(1), homes[due - begin]);
            }
        }
    }

    private static void bestOfNoFreeSquares() {
        LandUses x = new LandUses();
        due("nothing is free, no law", x.can(), true);
        due("its worth", x.best(), 0);
        due("its uses", x.given(0), 0);
        due("take", x.take(), true);
        due("all is wild", x.count(0), 60);
        Checks.bookOf(x, "homes 7 on 0;law homes most 1");
        x.use(3, 3, 1);
        due("all laws hold", x.can(), true);
        due("worth of the land", x.best(), 7);
        due("a law that holds costs nothing", x.cost(1), 0);
        x.use(4, 4, 1);
        due("a law does not hold", x.can(), false);
        Checks.dueThrows("no best", x::best, NO_SUCH);
        Checks.dueThrows("no cost", () -> x.cost(1), NO_SUCH);
        due("nothing is given", x.given(3), -1);
        due("nothing is taken", x.take(), false);
    }

    private static void bestGivesNoWild() {
        LandUses x = Checks.withBook("wild 50 on 0;homes minus 9 on 0;works minus 8 on 0;farms minus 7 on 0;"
                + "woods minus 6 on 0");
        x.free(0, true);
        due("woods, though wild is worth more", x.best(), 59 * 50 - 6);
        due("woods", x.given(0), 4);
        for (int use = 1; use <= 4; use++) {
            String name = new String[] {"wild", "homes", "works", "farms", "woods"}[use];
            Checks.bookOf(x, "wild 50 on 0;" + name + " 1 on 0");
            due(name + " is the best", x.best(), 59 * 50 + 1);
            due(name + " is given", x.given(0), use);
        }
        Checks.bookOf(x, "law wild least 60");
        due("none by which all stay wild", x.can(), false);
        Checks.bookOf(x, "law homes most 0;law works most 0;law farms most 0");
        due("woods alone are left", x.given(0), 4);
        Checks.bookOf(x, "law homes most 0;law works most 0;law farms most 0;law woods most 0");
        due("nothing is left", x.can(), false);
    }

    private static void bestOthersStay() {
        LandUses x = Checks.withBook("homes 1 on 0");
        x.use(1, 1, 2);
        x.free(0, true);
        x.free(59, true);
        due("the first and last squares", x.best(), 2);
        for (int square = 0; square < 60; square++) {
            due("given " + square, x.given(square), square == 0 || square == 59 ? 1 : square == 1 ? 2 : 0);
        }
        due("the land is as it was", x.worth(), 0);
        due("take", x.take(), true);
        due("now it is worth that", x.worth(), 2);
    }

    private static void bestOfSeveralTheLeastUses() {
        int[] squares = {47, 3, 59, 20, 0};
        LandUses x = new LandUses();
        for (int square : squares) {
            x.free(square, true);
        }
        for (int square : squares) {
            due("all worth the same: homes", x.given(square), 1);
        }
        gives(x, "law homes most 0", 2, 2, 2, 2, 2);
        gives(x, "law homes most 1", 1, 2, 2, 2, 2);
        gives(x, "law homes most 2", 1, 1, 2, 2, 2);
        gives(x, "law woods least 1", 1, 1, 1, 1, 4);
        gives(x, "law woods least 4", 1, 4, 4, 4, 4);
        gives(x, "law woods least 5", 4, 4, 4, 4, 4);
        gives(x, "law homes most 1;law works most 1;law farms most 1;law woods most 2", 1, 2, 3, 4, 4);
        gives(x, "law homes least 1;law works least 1;law farms least 1;law woods least 1", 1, 1, 2, 3, 4);
        gives(x, "woods 1 on 0;law woods most 2", 1, 1, 1, 4, 4);
        gives(x, "works 1 on 0;farms 1 on 0;law works most 2", 2, 2, 3, 3, 3);
        x.soil(20, 20, 1);
        gives(x, "farms 1 on 1;woods 1 on 1", 1, 1, 3, 1, 1);
        gives(x, "farms 1 on 1;woods 2 on 1", 1, 1, 4, 1, 1);
        gives(x, "homes minus 1 on 0;works minus 1 on 1", 2, 2, 3, 2, 2);
    }

    /** What the free squares 0, 3, 20, 47 and 59 are given by a book. */
    private static void gives(LandUses x, String book, int... uses) {
        Checks.bookOf(x, book);
        int[] squares = {0, 3, 20, 47, 59};
        for (int i = 0; i < 5; i++) {
            due(book + ": given " + squares[i], x.given(squares[i]), uses[i]);
        }
    }

    /** What use a free square has now is nothing to the best. */
    private static void bestWhoseFreeSquaresHaveUses() {
        for (int use = 0; use <= 4; use++) {
            for (int other = 0; other <= 4; other++) {
                LandUses x = Checks.withBook("homes 3 near works 1;homes minus 1 near woods 2;farms 2 on 0;"
                        + "law farms most 1;law works apart works 2;works 1 near farms 2;law woods most 0");
                x.use(33, 33, use);
                x.use(34, 34, other);
                x.free(33, true);
                x.free(34, true);
                due("best of two", x.best(), 3);
                due("homes", x.given(33), 1);
                due("works", x.given(34), 2);
                due("cost of most", x.cost(3), 1);
                due("cost of apart", x.cost(4), 0);
                due("cost of woods", x.cost(6), 0);
            }
        }
    }

    private static void bestByAllLaws() {
        LandUses x = Checks.withBook("homes 5 on 0;law homes apart homes 2;law homes apart works 3");
        x.free(0, true);
        x.free(1, true);
        x.free(3, true);
        due("two homes, one more would be too near", x.best(), 10);
        due("given", x.given(0), 1);
        due("given", x.given(1), 3);
        due("given", x.given(3), 1);
        x.use(5, 5, 2);
        due("works two steps from one of them", x.best(), 5);
        x.use(5, 5, 0);
        x.use(6, 6, 2);
        due("works three steps from it", x.best(), 10);
        Checks.bookOf(x, "homes 5 on 0;law homes joined");
        due("three can't be joined", x.best(), 10);
        due("the third", x.given(3), 2);
        x.use(2, 2, 1);
        due("by one between them they can", x.best(), 20);
        x.use(6, 6, 0);
        Checks.bookOf(x, "law works least 1;law farms least 1;law woods least 1;law homes least 1");
        due("exactly as many as are free", x.can(), true);
        x.use(2, 2, 0);
        due("one too few", x.can(), false);
    }

    /** On each line, a law that squares break which are not free: no best, whatever is given. */
    private static void bestByLawsOfSquaresThatAreNotFree() {
        String[] laws = {"law works apart works 2", "law works apart farms 3", "law works joined", "law works most 3",
            "law works least 7"};
        for (String law : laws) {
            for (int line = 0; line < 14; line++) {
                LandUses x = Checks.withBook("farms 1 on 0;".repeat(line) + law);
                Checks.draw(x, "ww.w.wf");
                x.free(40, true);
                x.free(59, true);
                due("broken by line " + line, x.broken(), line);
                due("no best by line " + line, x.can(), false);
                due("nothing is given by line " + line, x.given(40), -1);
                due("nothing is taken by line " + line, x.take(), false);
            }
        }
    }

    /** What was tried on a free square is nothing to what is tried after it. */
    private static void bestOfEachPairOnce() {
        for (int use = 1; use <= 4; use++) {
            String name = new String[] {"wild", "homes", "works", "farms", "woods"}[use];
            LandUses x = Checks.withBook(name + " 5 near " + name + " 1");
            for (int square = 0; square < 5; square++) {
                x.free(square, true);
                due("a row of " + name, x.best(), 10 * square);
                due("the first of them", x.given(0), square == 0 ? 1 : use);
            }
            Checks.bookOf(x, name + " minus 5 near " + name + " 5;law " + name + " least 5");
            due("all of them, five steps or fewer", x.best(), -5 * 20);
            due("cost", x.cost(1), 100);
            Checks.bookOf(x, name + " minus 5 near " + name + " 1;law " + name + " least 3");
            due("three with gaps", x.best(), 0);
            due("with gaps", x.given(4), use);
        }
    }

    private static void givenWithoutOne() {
        LandUses x = Checks.withBook("law homes least 2");
        x.use(10, 10, 3);
        x.free(0, true);
        for (int square = 0; square < 60; square++) {
            due("given " + square + " without a best", x.given(square), -1);
        }
        x.use(59, 59, 1);
        due("with one", x.given(0), 1);
        due("its own", x.given(10), 3);
        due("its own", x.given(59), 1);
    }

    private static void takeTakesAll() {
        LandUses x = Checks.withBook("farms 1 on 1;law woods least 1");
        x.soil(0, 59, 1);
        for (int square = 0; square < 50; square += 10) {
            x.use(square, square, 2);
            x.free(square, true);
        }
        due("best", x.best(), 4);
        due("take", x.take(), true);
        due("farms", x.count(3), 4);
        due("the last is woods", x.look(40, 0), 4);
        due("worth", x.worth(), 4);
        due("all laws hold", x.broken(), -1);
        due("the best is the same", x.best(), 4);
        x.use(0, 0, 1);
        due("another use", x.worth(), 3);
        due("take again", x.take(), true);
        due("as before", x.worth(), 4);
        Checks.bookOf(x, "law farms least 6");
        due("no best", x.take(), false);
        due("nothing happens", x.count(3), 4);
    }

    private static void costWithAndWithout() {
        LandUses x = Checks.withBook("homes 9 on 0;law homes most 2;works 9 on 0;law works least 0");
        x.free(0, true);
        due("a law that nothing strains", x.cost(1), 0);
        x.use(50, 51, 1);
        due("works are worth as much", x.cost(1), 0);
        Checks.bookOf(x, "homes 9 on 0;law homes most 2;works 8 on 0");
        due("homes are worth one more", x.cost(1), 1);
        x.use(52, 52, 1);
        Checks.dueThrows("without the law there would be a best, with it there is none", () -> x.cost(1), NO_SUCH);
        x.use(52, 52, 0);
        due("again", x.cost(1), 1);
        Checks.bookOf(x, "homes minus 9 on 0;law homes least 3;law works most 0");
        due("below 0 with it, less without", x.best(), -27);
        due("cost", x.cost(1), 9);
        due("cost of the other", x.cost(2), 0);
        Checks.dueThrows("a worth has no cost", () -> x.cost(0), NO_SUCH);
        Checks.dueThrows("of several the first: there is no line", () -> x.cost(3), INDEX);
    }

    /** Two laws in one another's way: without one the other still holds. */
    private static void costOfOneLawOfTwo() {
        LandUses x = Checks.withBook("homes 9 on 0;law homes most 0;law homes apart woods 2;works 2 on 0;law works most 0;"
                + "law works apart woods 2");
        x.free(1, true);
        x.use(0, 0, 4);
        due("both forbid homes and both forbid works", x.best(), 0);
        due("most homes", x.cost(1), 0);
        due("homes apart", x.cost(2), 0);
        due("most works", x.cost(4), 0);
        due("works apart", x.cost(5), 0);
        x.use(0, 0, 0);
        due("without woods: most homes", x.cost(1), 9);
        due("homes apart", x.cost(2), 0);
        due("most works", x.cost(4), 2);
        Checks.bookOf(x, "homes 9 on 0;law homes apart works 2;law homes apart farms 2;law homes apart woods 2");
        x.use(0, 0, 2);
        x.use(2, 2, 3);
        due("two pairs forbid it", x.best(), 0);
        due("the one", x.cost(1), 0);
        due("the other", x.cost(2), 0);
        x.use(2, 2, 0);
        due("one pair alone", x.cost(1), 9);
        due("none", x.cost(2), 0);
        x.use(3, 3, 3);
        x.use(0, 0, 0);
        due("two steps", x.cost(2), 0);
    }

    private static void costOfFourteenLaws() {
        LandUses x = Checks.withBook("law woods most 99;law woods most 98;law woods most 97;law woods most 96;"
                + "law woods most 95;law woods most 94;law woods most 93;law woods most 92;law woods most 91;"
                + "law woods most 90;law woods most 89;homes 1 on 0;homes 2 near homes 1;law homes most 1");
        x.free(0, true);
        x.free(1, true);
        due("one home", x.best(), 1);
        for (int line = 0; line < 11; line++) {
            due("cost " + line, x.cost(line), 0);
        }
        due("the last line", x.cost(13), 2 + 4 - 1);
        Checks.bookOf(x, "law homes most 1;homes 1 on 0;homes 2 near homes 1");
        due("the first line", x.cost(0), 2 + 4 - 1);
    }

    private static void lookWhat0To3() {
        LandUses x = new LandUses();
        x.use(59, 59, 2);
        x.soil(59, 59, 9);
        x.free(59, true);
        int[] due = {2, 9, 1, 0};
        for (int what = 0; what < 4; what++) {
            due("look at the last square " + what, x.look(59, what), due[what]);
        }
        int[] first = {0, 0, 0, 2};
        for (int what = 0; what < 4; what++) {
            due("look at the first square " + what, x.look(0, what), first[what]);
        }
        for (int what : new int[] {LOW, -2, -1, 4, 5, HIGH}) {
            Checks.dueThrows("look at " + what, () -> x.look(0, what), NO_SUCH);
            Checks.dueThrows("of several the first: no square", () -> x.look(60, what), INDEX);
            Checks.dueThrows("of several the first: no square", () -> x.look(-1, what), INDEX);
        }
        sidesAlike();
    }

    private static void sidesAlike() {
        for (int sides = 0; sides < 16; sides++) {
            LandUses x = new LandUses();
            int[] beside = {12, 21, 23, 32};
            x.use(22, 22, 4);
            for (int i = 0; i < 4; i++) {
                x.use(beside[i], beside[i], (sides >> i & 1) == 1 ? 4 : 1);
            }
            due("squares alike beside", x.look(22, 3), Integer.bitCount(sides));
        }
    }

    /** With 0 to 6 plans: each of them, the land, and none beside them. */
    private static void plansOfEachCount() {
        for (int plans = 0; plans <= 6; plans++) {
            LandUses x = new LandUses();
            for (int i = 0; i < plans; i++) {
                x.use(10 * i, 10 * i + i, 1);
                due("keep", x.keep(), i);
            }
            x.use(0, 59, 0);
            for (int plan : new int[] {LOW, -2, -1, 0, plans - 1, plans, plans + 1, 6, 7, HIGH}) {
                boolean is = plan >= 0 && plan < plans;
                int homes = is ? (plan + 1) * (plan + 2) / 2 : 0;
                if (is || plan == -1) {
                    due("unlike the land " + plan, x.unlike(plan, -1), homes);
                    due("the land unlike it " + plan, x.unlike(-1, plan), homes);
                    due("like itself " + plan, x.unlike(plan, plan), 0);
                } else {
                    Checks.dueThrows("unlike " + plan, () -> x.unlike(plan, -1), INDEX);
                    Checks.dueThrows("unlike " + plan, () -> x.unlike(-1, plan), INDEX);
                    Checks.dueThrows("unlike " + plan, () -> x.unlike(plan, plan), INDEX);
                }
                if (is) {
                    due("back to " + plan, x.back(plan), homes);
                    due("homes of it", x.count(1), homes);
                    due("back to it again", x.back(plan), 0);
                    x.use(0, 59, 0);
                } else {
                    Checks.dueThrows("back to " + plan, () -> x.back(plan), INDEX);
                }
            }
        }
    }

    private static void backChangesUsesAlone() {
        LandUses x = Checks.withBook("homes 1 on 0");
        x.keep();
        x.use(0, 59, 1);
        x.keep();
        x.soil(0, 59, 4);
        x.free(7, true);
        x.gate(59);
        x.years(5);
        due("all change", x.back(0), 60);
        due("none change", x.back(0), 0);
        due("all change again", x.back(1), 60);
        due("soil", x.look(30, 1), 4);
        due("free", x.look(7, 2), 1);
        due("gate", x.far(), 14);
        due("year", x.count(9), 5);
        due("book", x.worth(), 60);
        x.use(30, 30, 4);
        due("one changes", x.back(1), 1);
        due("plans are not moved", x.unlike(0, 1), 60);
    }

    private static void countWhat0To9() {
        LandUses x = Checks.withBook("law homes least 0;homes 1 on 0;grow homes to works when woods near 5 60");
        x.use(0, 0, 1);
        x.use(1, 2, 2);
        x.use(3, 5, 3);
        x.use(6, 9, 4);
        for (int i = 0; i < 3; i++) {
            x.free(i, true);
        }
        for (int i = 0; i < 4; i++) {
            x.keep();
        }
        x.years(11);
        int[] due = {50, 1, 2, 3, 4, 3, 3, 1, 4, 11};
        for (int what = 0; what <= 9; what++) {
            due("count " + what, x.count(what), due[what]);
        }
        for (int what : new int[] {LOW, -2, -1, 10, 11, HIGH}) {
            due("count " + what, x.count(what), -1);
        }
        for (int use = 0; use <= 4; use++) {
            x.use(0, 59, use);
            for (int other = 0; other <= 4; other++) {
                due("all of one use", x.count(other), other == use ? 60 : 0);
            }
        }
    }
}
