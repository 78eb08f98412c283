import java.util.function.BiFunction;

/** The sentences of "Terms" about the land that name a bound: at it, and on both sides of it. */
public final class TermsTest {
    private static final int LOW = Integer.MIN_VALUE;
    private static final int HIGH = Integer.MAX_VALUE;
    private static final int[] SQUARES = {0, 1, 9, 10, 19, 20, 49, 50, 58, 59};
    private static final int[] NO_SQUARES = {-1, 60, -2, 61, -10, 69, 70, 100, 255, 256, LOW, LOW + 1, HIGH, HIGH - 1};
    private static final String NEAR_AND_APART = "homes 1 near woods 1;homes 1 near woods 2;homes 1 near woods 3;"
            + "homes 1 near woods 4;homes 1 near woods 5;law homes apart woods 1;law homes apart woods 2;"
            + "law homes apart woods 3;law homes apart woods 4;law homes apart woods 5";

    public static void main(String[] args) {
        squaresAre0To59();
        numbersAreTenYAndX();
        apartByKingsSteps();
        ofOneUseItselfIsNotAnother();
        growthByKingsSteps();
        besideIsAboveBelowRightLeft();
        usesAre0To4();
        soilsAre0To9();
        atMostFiveAreFree();
        yearIs1000AtLast();
        onIsSoHighAtLeast();
        leastAndMost();
        joinedOfNoneOneAndMany();
        brokenIsTheFirstLaw();
        growthNeedsAsManyOrMore();
        growthIsAllAtOnce();
        theFirstGrowLineCounts();
        plansAreAtMostSix();
        roadsAndFar();
        Checks.finish();
    }

    private static void due(String what, Object got, Object want) {
        Checks.due(what, got, want);
    }

    private static int kingsSteps(int a, int b) {
        return Math.max(Math.abs(a % 10 - b % 10), Math.abs(a / 10 - b / 10));
    }

    private static int roadSteps(int a, int b) {
        return Math.abs(a % 10 - b % 10) + Math.abs(a / 10 - b / 10);
    }

    private static void squareCall(String name, BiFunction<LandUses, Integer, Object> call) {
        for (int square : SQUARES) {
            LandUses x = new LandUses();
            Object got = Checks.answer(() -> call.apply(x, square));
            due("there is SQUARE " + square + " for " + name, got.toString().startsWith("throws."), false);
        }
        for (int square : NO_SQUARES) {
            LandUses x = new LandUses();
            Checks.dueThrows("there is no SQUARE " + square + " for " + name, () -> call.apply(x, square),
                    IndexOutOfBoundsException.class);
        }
    }

    private static void squaresAre0To59() {
        squareCall("use from", (x, s) -> x.use(s, 33, 1));
        squareCall("use to", (x, s) -> x.use(33, s, 1));
        squareCall("use from and to", (x, s) -> x.use(s, s, 1));
        squareCall("soil from", (x, s) -> { x.soil(s, 33, 1); return 0; });
        squareCall("soil to", (x, s) -> { x.soil(33, s, 1); return 0; });
        squareCall("free", (x, s) -> x.free(s, true));
        squareCall("free not", (x, s) -> x.free(s, false));
        squareCall("gate", (x, s) -> { x.gate(s); return 0; });
        squareCall("given", (x, s) -> x.given(s));
        for (int what = 0; what < 4; what++) {
            int w = what;
            squareCall("look at " + what, (x, s) -> x.look(s, w));
        }
    }

    /** Every rectangle of one corner and another, by use and by soil. */
    private static void numbersAreTenYAndX() {
        for (int from = 0; from < 60; from++) {
            for (int to = 0; to < 60; to++) {
                LandUses x = new LandUses();
                int wide = Math.abs(from % 10 - to % 10) + 1;
                int high = Math.abs(from / 10 - to / 10) + 1;
                due("use(" + from + ", " + to + ")", x.use(from, to, 3), wide * high);
                x.soil(from, to, 8);
                boolean right = true;
                for (int square = 0; square < 60; square++) {
                    boolean in = Math.abs(square % 10 - from % 10) + Math.abs(square % 10 - to % 10) + 1 == wide
                            && Math.abs(square / 10 - from / 10) + Math.abs(square / 10 - to / 10) + 1 == high;
                    right = right && x.look(square, 0) == (in ? 3 : 0) && x.look(square, 1) == (in ? 8 : 0);
                }
                due("squares of the rectangle from " + from + " to " + to, right, true);
            }
        }
    }

    /** Each pair of squares, at each number of steps: near is "at most", apart is "fewer than". */
    private static void apartByKingsSteps() {
        for (int a = 0; a < 60; a++) {
            LandUses x = Checks.withBook(NEAR_AND_APART);
            x.use(a, a, 1);
            for (int b = 0; b < 60; b++) {
                if (b != a) {
                    int steps = kingsSteps(a, b);
                    x.use(b, b, 4);
                    due("near: homes " + a + " woods " + b, x.worth(), Math.max(0, 6 - steps));
                    due("apart: homes " + a + " woods " + b, x.broken(), steps <= 4 ? 5 + steps : -1);
                    x.use(b, b, 0);
                }
            }
        }
    }

    private static void ofOneUseItselfIsNotAnother() {
        LandUses x = Checks.withBook("homes 1 near homes 5;homes minus 10 near homes 1;law homes apart homes 5");
        due("no homes", x.worth(), 0);
        x.use(22, 22, 1);
        due("homes alone are not near themselves", x.worth(), 0);
        due("homes alone are apart", x.broken(), -1);
        x.use(27, 27, 1);
        due("two homes, each near the other", x.worth(), 2);
        due("five steps are not fewer than five", x.broken(), -1);
        x.use(26, 26, 1);
        due("three homes", x.worth(), 6 - 20);
        due("four steps are fewer than five", x.broken(), 2);
        Checks.bookOf(x, "law homes apart homes 2;law homes apart homes 1");
        due("one step is fewer than two", x.broken(), 0);
        Checks.bookOf(x, "law homes apart homes 1");
        due("none is fewer than one step from another", x.broken(), -1);
    }

    private static void growthByKingsSteps() {
        for (int a = 0; a < 60; a++) {
            for (int steps = 1; steps <= 5; steps++) {
                LandUses x = Checks.withBook("grow wild to farms when homes near " + steps + " 1");
                x.use(a, a, 1);
                x.years(1);
                boolean right = true;
                for (int b = 0; b < 60; b++) {
                    right = right && x.look(b, 0) == (b == a ? 1 : kingsSteps(a, b) <= steps ? 3 : 0);
                }
                due("growth " + steps + " steps round " + a, right, true);
            }
        }
    }

    /** Each pair of squares: what is beside, what is joined, and how far it is by roads. */
    private static void besideIsAboveBelowRightLeft() {
        for (int a = 0; a < 60; a++) {
            LandUses x = Checks.withBook("law homes joined");
            x.gate(a);
            for (int b = 0; b < 60; b++) {
                x.use(b, b, 1);
                due("far from " + a + " to " + b, x.far(), roadSteps(a, b));
                x.use(a, a, 1);
                if (b != a) {
                    due("homes beside " + a + " at " + b, x.look(a, 3), roadSteps(a, b) == 1 ? 1 : 0);
                    due("homes joined " + a + " and " + b, x.broken(), roadSteps(a, b) == 1 ? -1 : 0);
                }
                x.use(a, b, 0);
            }
        }
        LandUses x = new LandUses();
        for (int square = 0; square < 60; square++) {
            int sides = (square % 10 > 0 ? 1 : 0) + (square % 10 < 9 ? 1 : 0) + (square >= 10 ? 1 : 0)
                    + (square < 50 ? 1 : 0);
            due("wild squares beside " + square, x.look(square, 3), sides);
        }
    }

    private static void usesAre0To4() {
        for (int use = 0; use <= 4; use++) {
            LandUses x = new LandUses();
            due("use " + use, x.use(7, 7, use), use == 0 ? 0 : 1);
            due("the use is " + use, x.look(7, 0), use);
            due("it is counted", x.count(use), use == 0 ? 60 : 1);
        }
        for (int use : new int[] {-1, 5, -2, 6, LOW, HIGH}) {
            LandUses x = new LandUses();
            Checks.dueThrows("no use " + use, () -> x.use(7, 7, use), IllegalArgumentException.class);
        }
    }

    private static void soilsAre0To9() {
        for (int soil = 0; soil <= 9; soil++) {
            LandUses x = new LandUses();
            x.soil(0, 59, 9 - soil);
            x.soil(7, 7, soil);
            due("the soil is " + soil, x.look(7, 1), soil);
            due("beside it", x.look(8, 1), 9 - soil);
        }
        for (int soil : new int[] {-1, 10, -2, 11, LOW, HIGH}) {
            LandUses x = new LandUses();
            Checks.dueThrows("no soil " + soil, () -> { x.soil(7, 7, soil); return 0; },
                    IllegalArgumentException.class);
        }
    }

    private static void atMostFiveAreFree() {
        LandUses x = new LandUses();
        for (int i = 0; i < 7; i++) {
            due("free number " + i, x.free(8 * i, true), i < 5);
            due("so many are free", x.count(5), Math.min(5, i + 1));
            due("free: " + i, x.look(8 * i, 2), i < 5 ? 1 : 0);
        }
        due("one less", x.free(16, false), true);
        due("one less", x.count(5), 4);
        due("one more", x.free(40, true), true);
        due("and no more", x.free(48, true), false);
    }

    private static void yearIs1000AtLast() {
        LandUses x = new LandUses();
        for (int i = 1; i <= 49; i++) {
            x.years(20);
        }
        due("year 999", x.years(19), 999);
        due("year 1000", x.years(1), 1000);
        due("still 1000", x.years(1), 1000);
        due("still 1000", x.years(20), 1000);
        due("1000 is counted", x.count(9), 1000);
    }

    private static void onIsSoHighAtLeast() {
        for (int least = 0; least <= 9; least++) {
            LandUses x = Checks.withBook("farms 1 on " + least);
            x.use(0, 9, 3);
            for (int soil = 0; soil <= 9; soil++) {
                x.soil(soil, soil, soil);
            }
            due("soils from " + least + " on", x.worth(), 10 - least);
            x.use(0, 59, 3);
            due("at the land's begin and end", x.worth(), least == 0 ? 60 : 10 - least);
            x.soil(59, 59, 9);
            x.soil(0, 0, 9);
            due("first and last square", x.worth(), least == 0 ? 60 : 12 - least);
        }
    }

    private static void leastAndMost() {
        for (int use = 0; use <= 4; use++) {
            String name = new String[] {"wild", "homes", "works", "farms", "woods"}[use];
            for (int n : new int[] {0, 1, 2, 30, 59, 60}) {
                LandUses x = new LandUses();
                x.use(0, 59, use == 0 ? 1 : 0);
                for (int square = 0; square < n; square++) {
                    x.use(square, square, use);
                }
                for (int bound : new int[] {0, 1, 2, 3, 29, 30, 31, 58, 59, 60, 61, 99}) {
                    Checks.bookOf(x, "law " + name + " least " + bound);
                    due(n + " " + name + ", least " + bound, x.broken(), n >= bound ? -1 : 0);
                    Checks.bookOf(x, "law " + name + " most " + bound);
                    due(n + " " + name + ", most " + bound, x.broken(), n <= bound ? -1 : 0);
                }
            }
        }
    }

    private static void joinedOfNoneOneAndMany() {
        LandUses x = Checks.withBook("law woods joined;law wild joined");
        due("no woods, all wild", x.broken(), -1);
        x.use(59, 59, 4);
        due("one wood at the last square", x.broken(), -1);
        x.use(0, 0, 4);
        due("two woods at the first and last squares", x.broken(), 0);
        x.use(0, 59, 4);
        due("all woods, none wild", x.broken(), -1);
        x.use(0, 0, 0);
        due("one wild", x.broken(), -1);
        x.use(1, 1, 0);
        due("two wild side by side", x.broken(), -1);
        x.use(1, 1, 4);
        x.use(11, 11, 0);
        due("two wild corner to corner", x.broken(), 1);
        x.use(10, 10, 0);
        due("joined by a third", x.broken(), -1);
    }

    private static void brokenIsTheFirstLaw() {
        LandUses x = Checks.withBook("homes 1 on 0;law homes least 1;grow wild to works when homes near 1 60;"
                + "law homes most 1;law works least 1;law works most 0");
        due("the first of two", x.broken(), 1);
        x.use(0, 0, 1);
        due("the next one", x.broken(), 4);
        x.use(1, 1, 1);
        due("one ahead of it", x.broken(), 3);
        x.use(0, 0, 2);
        due("the last line", x.broken(), 5);
        Checks.bookOf(x, "homes minus 99 on 0;grow homes to homes when wild near 1 1");
        due("no law is broken without laws", x.broken(), -1);
        Checks.bookOf(x, "law homes least 2");
        due("line 0", x.broken(), 0);
        Checks.bookOf(x, "");
        due("no line is broken without lines", x.broken(), -1);
    }

    private static void growthNeedsAsManyOrMore() {
        for (int n = 0; n <= 8; n++) {
            for (int need = 1; need <= 9; need++) {
                LandUses x = Checks.withBook("grow wild to woods when farms near 1 " + need);
                int[] around = {21, 22, 23, 31, 33, 41, 42, 43};
                for (int i = 0; i < n; i++) {
                    x.use(around[i], around[i], 3);
                }
                x.years(1);
                due(n + " around of " + need, x.look(32, 0), n >= need ? 4 : 0);
            }
        }
        for (int need = 58; need <= 60; need++) {
            LandUses all = Checks.withBook("grow homes to works when homes near 5 " + need);
            all.use(0, 59, 1);
            all.years(1);
            due("columns 4 and 5 have all 59 others near", all.count(2), need <= 59 ? 12 : 0);
        }
        LandUses self = Checks.withBook("grow homes to works when homes near 1 8");
        self.use(11, 33, 1);
        self.years(1);
        due("eight around the middle one", self.look(22, 0), 2);
        due("it alone", self.count(2), 1);
        LandUses short1 = Checks.withBook("grow homes to works when homes near 1 9");
        short1.use(11, 33, 1);
        short1.years(1);
        due("itself is not the ninth", short1.count(2), 0);
    }

    private static void growthIsAllAtOnce() {
        LandUses x = Checks.withBook("grow wild to homes when homes near 1 1");
        x.use(0, 0, 1);
        for (int year = 1; year <= 9; year++) {
            x.years(1);
            due("one step a year, not through the row", x.count(1), (year + 1) * Math.min(6, year + 1));
        }
        x.use(0, 59, 0);
        x.use(59, 59, 1);
        x.years(1);
        due("upward as well", x.count(1), 4);
        LandUses gone = Checks.withBook("grow homes to wild when homes near 1 1");
        gone.use(0, 1, 1);
        gone.years(1);
        due("both by what there was at the year's begin", gone.count(1), 0);
    }

    private static void theFirstGrowLineCounts() {
        LandUses x = Checks.withBook("grow wild to farms when homes near 1 2;homes 5 on 0;"
                + "grow wild to works when homes near 1 1;grow wild to woods when homes near 1 1");
        Checks.draw(x, "h.h");
        x.years(1);
        due("the first line, if it counts", x.look(1, 0), 3);
        due("else the next one", x.look(3, 0), 2);
        due("the last one never", x.count(4), 0);
        LandUses once = Checks.withBook("grow wild to farms when homes near 1 1;grow farms to woods when homes near 1 1");
        once.use(0, 0, 1);
        once.years(1);
        due("one line a year", once.look(1, 0), 3);
        once.years(1);
        due("the second one in the next", once.look(1, 0), 4);
    }

    private static void plansAreAtMostSix() {
        LandUses x = new LandUses();
        for (int i = 0; i < 8; i++) {
            x.use(i, i, 1);
            due("plan " + i, x.keep(), i < 6 ? i : -1);
            due("plans", x.count(8), Math.min(6, i + 1));
        }
        for (int i = 0; i < 6; i++) {
            due("plan " + i + " is as it was kept", x.unlike(i, -1), 7 - i);
        }
    }

    private static void roadsAndFar() {
        LandUses x = new LandUses();
        due("no homes", x.far(), 0);
        x.use(0, 59, 4);
        due("all woods, no homes", x.far(), 0);
        x.use(0, 0, 1);
        due("homes at the gate, woods around", x.far(), 0);
        x.gate(1);
        due("from woods beside", x.far(), 1);
        x.gate(11);
        due("not over woods, nor corner to corner", x.far(), -1);
        x.use(10, 10, 3);
        due("over farms", x.far(), 2);
        x.use(9, 9, 1);
        due("one can be reached, one can't", x.far(), -1);
        x.use(1, 9, 2);
        due("over works", x.far(), 2);
        x.use(9, 9, 1);
        due("the farthest counts", x.far(), 9);
        x.gate(0);
        due("from homes", x.far(), 9);
        x.use(4, 4, 4);
        due("woods across the only road", x.far(), -1);
        x.use(4, 4, 0);
        due("wild there", x.far(), 9);
        x.use(9, 9, 4);
        due("the farthest is gone", x.far(), 0);
        longestRoad(x);
    }

    private static void longestRoad(LandUses x) {
        Checks.draw(x,
                ".t...t...t",
                ".t.t.t.t.t",
                ".t.t.t.t.t",
                ".t.t.t.t.t",
                ".t.t.t.t.t",
                "...t...t.h");
        x.gate(0);
        due("up and down the columns", x.far(), 5 + 2 + 5 + 2 + 5 + 2 + 5 + 2 + 5 + 1);
        x.use(58, 58, 4);
        due("closed before its end", x.far(), -1);
    }
}
