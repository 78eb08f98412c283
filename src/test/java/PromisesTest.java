import java.util.NoSuchElementException;

/** For each promise: ordinary inputs, the edges that the document names, and wrong inputs. */
public final class PromisesTest {
    private static final Class<IndexOutOfBoundsException> INDEX = IndexOutOfBoundsException.class;
    private static final Class<IllegalArgumentException> ARGUMENT = IllegalArgumentException.class;
    private static final Class<NoSuchElementException> NO_SUCH = NoSuchElementException.class;
    private static final int LOW = Integer.MIN_VALUE;
    private static final int HIGH = Integer.MAX_VALUE;

    public static void main(String[] args) {
        newObject();
        feed();
        end();
        use();
        soil();
        free();
        gate();
        book();
        fault();
        worthOfNear();
        worthOfOn();
        adds();
        brokenApart();
        brokenCounts();
        brokenJoined();
        years();
        growth();
        can();
        bestAndGiven();
        bestOfFive();
        take();
        cost();
        look();
        keep();
        unlike();
        back();
        far();
        count();
        callsThatThrowChangeNothing();
        Checks.finish();
    }

    private static void due(String what, Object got, Object want) {
        Checks.due(what, got, want);
    }

    private static void newObject() {
        LandUses x = new LandUses();
        due("1 NONE", LandUses.NONE, -1);
        for (int square = 0; square < 60; square++) {
            due("1 use of " + square, x.look(square, 0), 0);
            due("1 soil of " + square, x.look(square, 1), 0);
            due("1 free " + square, x.look(square, 2), 0);
        }
        due("1 wild", x.count(0), 60);
        for (int what = 1; what <= 9; what++) {
            due("1 count " + what, x.count(what), 0);
        }
        due("1 worth", x.worth(), 0);
        due("1 fault", x.fault(), -1);
        due("1 broken", x.broken(), -1);
        due("1 far", x.far(), 0);
        due("1 can", x.can(), true);
        due("1 best", x.best(), 0);
        due("1 tape is empty", x.end(1), false);
    }

    private static void feed() {
        LandUses x = new LandUses();
        for (int i = 1; i <= 20; i++) {
            due("2 feed " + i, x.feed(0x20202020, 0x20202020, 0x20202020, 0x20202020, 0x20202020), 20 * i);
        }
        due("2 no room", x.feed(0, 0, 0, 0, 0), -1);
        due("2 none came", x.end(401), false);
        due("2 all are there", x.end(400), true);
        due("2 shorter", x.end(381), true);
        due("2 no room for twenty", x.feed(0, 0, 0, 0, 0), -1);
        due("2 still 381", x.end(382), false);
        due("2 room again", x.end(380), true);
        due("2 last twenty", x.feed(0x20202020, 0x20202020, 0x20202020, 0x20202020, 0x20202020), 400);
        due("2 400 blanks", x.book(), 0);
        // "law farms most 5" in the bytes' order, highest first
        due("2 order", x.feed(0x6c617720, 0x6661726d, 0x73206d6f, 0x73742035, 0x20202020), 20);
        due("2 the book is read", x.book(), 1);
        due("2 bytes above 127", x.feed(0x68f66d65, -1, 0, 0, 0), 20);
        Checks.dueThrows("2 bytes above 127 are no letters", x::book, ARGUMENT);
        due("2 a word of one letter", x.fault(), 0);
    }

    private static void end() {
        LandUses x = new LandUses();
        due("3 of none 0", x.end(0), true);
        due("3 of none 1", x.end(1), false);
        due("3 below 0", x.end(-1), false);
        due("3 lowest", x.end(LOW), false);
        due("3 highest", x.end(HIGH), false);
        due("3 feed", x.feed(0, 0, 0, 0, 0), 20);
        due("3 more than it has", x.end(21), false);
        due("3 as many", x.end(20), true);
        due("3 fewer", x.end(7), true);
        due("3 it has 7", x.end(8), false);
        due("3 behind the first 7", x.feed(0, 0, 0, 0, 0), 27);
        due("3 below 0 keeps all", x.end(-1), false);
        due("3 it has 27", x.feed(0, 0, 0, 0, 0), 47);
        due("3 nothing is left", x.end(0), true);
        due("3 an empty book", x.book(), 0);
        Checks.write(x, "wild 3 on 0xxx");
        due("3 the first bytes stay", x.end(11), true);
        due("3 book of them", x.book(), 1);
        due("3 worth", x.worth(), 180);
    }

    private static void use() {
        LandUses x = new LandUses();
        due("4 one square", x.use(0, 0, 1), 1);
        due("4 again", x.use(0, 0, 1), 0);
        due("4 two by two", x.use(0, 11, 1), 3);
        due("4 other corners", x.use(10, 1, 2), 4);
        due("4 corners turned round", x.use(11, 0, 3), 4);
        due("4 right column and left column", x.use(9, 0, 4), 10);
        due("4 a column", x.use(5, 55, 2), 6);
        due("4 a column has others beside it", x.look(54, 0), 0);
        due("4 upward to the right", x.use(41, 23, 1), 9);
        due("4 in it", x.look(32, 0), 1);
        due("4 corner not named", x.look(21, 0), 1);
        due("4 left of it", x.look(30, 0), 0);
        due("4 below it", x.look(51, 0), 0);
        due("4 right of it", x.look(24, 0), 0);
        due("4 the whole land", x.use(59, 0, 0), 10 + 2 + 5 + 9);
        due("4 all wild", x.count(0), 60);
        Checks.dueThrows("4 from -1", () -> x.use(-1, 0, 9), INDEX);
        Checks.dueThrows("4 from 60", () -> x.use(60, 0, 0), INDEX);
        Checks.dueThrows("4 to -1", () -> x.use(0, -1, 0), INDEX);
        Checks.dueThrows("4 to 60", () -> x.use(0, 60, -1), INDEX);
        Checks.dueThrows("4 lowest", () -> x.use(LOW, HIGH, 0), INDEX);
        Checks.dueThrows("4 use 5", () -> x.use(0, 59, 5), ARGUMENT);
        Checks.dueThrows("4 use -1", () -> x.use(0, 59, -1), ARGUMENT);
        Checks.dueThrows("4 use highest", () -> x.use(0, 59, HIGH), ARGUMENT);
        due("4 nothing changed", x.count(0), 60);
    }

    private static void soil() {
        LandUses x = new LandUses();
        x.soil(12, 34, 7);
        due("5 inside", x.look(23, 1), 7);
        due("5 corner", x.look(14, 1), 7);
        due("5 corner", x.look(32, 1), 7);
        due("5 outside", x.look(15, 1), 0);
        due("5 outside", x.look(42, 1), 0);
        x.soil(34, 23, 9);
        due("5 the rest stays", x.look(22, 1), 7);
        due("5 highest", x.look(33, 1), 9);
        x.soil(59, 0, 0);
        due("5 none again", x.look(33, 1), 0);
        Checks.dueThrows("5 from 60", () -> { x.soil(60, 0, 10); return 0; }, INDEX);
        Checks.dueThrows("5 from -1", () -> { x.soil(-1, 0, 0); return 0; }, INDEX);
        Checks.dueThrows("5 to 60", () -> { x.soil(0, 60, -1); return 0; }, INDEX);
        Checks.dueThrows("5 to lowest", () -> { x.soil(0, LOW, 0); return 0; }, INDEX);
        Checks.dueThrows("5 soil 10", () -> { x.soil(0, 59, 10); return 0; }, ARGUMENT);
        Checks.dueThrows("5 soil -1", () -> { x.soil(0, 59, -1); return 0; }, ARGUMENT);
        due("5 nothing changed", x.look(0, 1), 0);
    }

    private static void free() {
        LandUses x = new LandUses();
        due("6 not free already", x.free(0, false), false);
        due("6 free", x.free(59, true), true);
        due("6 it is free", x.look(59, 2), 1);
        due("6 free already", x.free(59, true), false);
        for (int square = 0; square < 4; square++) {
            due("6 more", x.free(square, true), true);
        }
        due("6 five are free", x.count(5), 5);
        due("6 a sixth", x.free(30, true), false);
        due("6 it is not", x.look(30, 2), 0);
        due("6 one of the five, again", x.free(2, true), false);
        due("6 not free, of five", x.free(2, false), true);
        due("6 it is not any more", x.look(2, 2), 0);
        due("6 room for one", x.free(30, true), true);
        due("6 five", x.count(5), 5);
        Checks.dueThrows("6 60", () -> x.free(60, true), INDEX);
        Checks.dueThrows("6 -1", () -> x.free(-1, false), INDEX);
        Checks.dueThrows("6 lowest", () -> x.free(LOW, true), INDEX);
    }

    private static void gate() {
        LandUses x = new LandUses();
        x.use(0, 0, 1);
        due("7 at first 0", x.far(), 0);
        x.gate(59);
        due("7 farthest", x.far(), 14);
        Checks.dueThrows("7 60", () -> { x.gate(60); return 0; }, INDEX);
        Checks.dueThrows("7 -1", () -> { x.gate(-1); return 0; }, INDEX);
        Checks.dueThrows("7 highest", () -> { x.gate(HIGH); return 0; }, INDEX);
        due("7 stays", x.far(), 14);
        x.gate(1);
        due("7 beside", x.far(), 1);
    }

    private static void book() {
        LandUses x = new LandUses();
        due("8 empty", x.book(), 0);
        due("8 blanks", Checks.bookOf(x, "    "), 0);
        due("8 all kinds", Checks.bookOf(x, "homes 2 near woods 3;works minus 12 on 4;law homes apart works 2;"
                + "law farms least 3;law woods most 99;law wild joined;grow wild to woods when woods near 1 60"), 7);
        due("8 used up", x.end(1), false);
        due("8 lines", x.count(6), 7);
        due("8 laws", x.count(7), 4);
        due("8 no blanks where none must be", Checks.bookOf(x, "homes minus5near woods1;homes0on9;"
                + "law homes apart homes5;law wild most0;grow farms to wild when works near5 60"), 5);
        due("8 many blanks", Checks.bookOf(x, "  homes   5   near   homes  1   ;   law   wild   joined   "), 2);
        due("8 two digits with 0 ahead", Checks.bookOf(x, "wild 05 on 00;wild 00 near wild 05;law wild least 00;"
                + "grow wild to wild when wild near 01 01"), 4);
        due("8 another book takes its place", Checks.bookOf(x, "wild 1 on 0"), 1);
        due("8 its worth", x.worth(), 60);
        Checks.write(x, "wild 1 on");
        Checks.dueThrows("8 wrong", x::book, ARGUMENT);
        due("8 used up though it was wrong", x.end(1), false);
        due("8 the book stays", x.count(6), 1);
        due("8 the worth stays", x.worth(), 60);
        due("8 no line again", Checks.bookOf(x, " "), 0);
        due("8 no lines", x.count(6), 0);
        due("8 no worth", x.worth(), 0);
        StringBuilder fourteen = new StringBuilder("law wild joined");
        for (int i = 0; i < 13; i++) {
            fourteen.append(";law wild joined");
        }
        due("8 fourteen lines", Checks.bookOf(x, fourteen.toString()), 14);
        due("8 fourteen laws", x.count(7), 14);
    }

    private static void fault() {
        LandUses x = new LandUses();
        due("9 ahead of any", x.fault(), -1);
        wrongAt(x, "homes", 5);
        due("9 stays", x.fault(), 5);
        Checks.bookOf(x, "");
        due("9 none with a right one", x.fault(), -1);
        wrongAt(x, "   homes   ", 11);
        wrongAt(x, "Homes 2 on 1", 0);
        wrongAt(x, "  home 2 on 1", 2);
        wrongAt(x, "homess 2 on 1", 0);
        wrongAt(x, "homes  x", 7);
        wrongAt(x, "homes -2 on 1", 6);
        wrongAt(x, "homes minus", 11);
        wrongAt(x, "homes minus minus 2 on 1", 12);
        wrongAt(x, "homes minus2on", 14);
        wrongAt(x, "homes 2 minus on 1", 8);
        wrongAt(x, "homes 100 on 1", 6);
        wrongAt(x, "homes 002 on 1", 6);
        wrongAt(x, "homes 99999999999 on 1", 6);
        wrongAt(x, "homes 2", 7);
        wrongAt(x, "homes 2 nearwoods 1", 8);
        wrongAt(x, "homes 2 apart woods 1", 8);
        wrongAt(x, "homes 2 near 1", 13);
        wrongAt(x, "homes 2 near law 1", 13);
        wrongAt(x, "homes 2 near woods", 18);
        wrongAt(x, "homes 2 near woods 0", 19);
        wrongAt(x, "homes 2 near woods 6", 19);
        wrongAt(x, "homes 2 near woods 00", 19);
        wrongAt(x, "homes 2 near woods 005", 19);
        wrongAt(x, "homes 2 near woods minus 5", 19);
        wrongAt(x, "homes 2 on 10", 11);
        wrongAt(x, "homes 2 on woods", 11);
        wrongAt(x, "homes 2 on 1 2", 13);
        wrongAt(x, "homes 2 on 1 homes 2 on 1", 13);
        wrongAt(x, "homes 2 on 1, homes 2 on 1", 12);
        wrongAt(x, "homes 2 on 1\n", 12);
        wrongAt(x, "homes\t2 on 1", 5);
        wrongAt(x, "homes 2 on 1;", 13);
        wrongAt(x, "homes 2 on 1;   ", 16);
        wrongAt(x, "homes 2 on 1;;", 13);
        wrongAt(x, "homes 2 on 1 ;  ; homes 2 on 1", 16);
        wrongAt(x, ";", 0);
        wrongAt(x, " ;homes 2 on 1", 1);
        wrongAt(x, "7", 0);
        wrongAt(x, "minus 7 on 1", 0);
        wrongAt(x, "law", 3);
        wrongAt(x, "law grow", 4);
        wrongAt(x, "lawhomes joined", 0);
        wrongAt(x, "law homes", 9);
        wrongAt(x, "law homes near woods 1", 10);
        wrongAt(x, "law homes 2 on 1", 10);
        wrongAt(x, "law homes apart", 15);
        wrongAt(x, "law homes apart 3", 16);
        wrongAt(x, "law homes apart works", 21);
        wrongAt(x, "law homes apart works 0", 22);
        wrongAt(x, "law homes apart works 6", 22);
        wrongAt(x, "law homes least", 15);
        wrongAt(x, "law homes least minus 1", 16);
        wrongAt(x, "law homes least 100", 16);
        wrongAt(x, "law homes most homes", 15);
        wrongAt(x, "law homes most 001", 15);
        wrongAt(x, "law homes joined 1", 17);
        wrongAt(x, "law homes joined law", 17);
        wrongAt(x, "law homes joinedd", 10);
        wrongAt(x, "grow", 4);
        wrongAt(x, "grow 1", 5);
        wrongAt(x, "grow wild", 9);
        wrongAt(x, "grow wild when", 10);
        wrongAt(x, "grow wild woods when woods near 1 1", 10);
        wrongAt(x, "grow wild to woods woods near 1 1", 19);
        wrongAt(x, "grow wild to woods when woods 1 1", 30);
        wrongAt(x, "grow wild to", 12);
        wrongAt(x, "grow wild to to", 13);
        wrongAt(x, "grow wild to woods near", 19);
        wrongAt(x, "grow wild to woods when", 23);
        wrongAt(x, "grow wild to woods when near", 24);
        wrongAt(x, "grow wild to woods when woods on", 30);
        wrongAt(x, "grow wild to woods when woods near 0 1", 35);
        wrongAt(x, "grow wild to woods when woods near 6 1", 35);
        wrongAt(x, "grow wild to woods when woods near 11", 35);
        wrongAt(x, "grow wild to woods when woods near 1", 36);
        wrongAt(x, "grow wild to woods when woods near 1 ", 37);
        wrongAt(x, "grow wild to woods when woods near 1 0", 37);
        wrongAt(x, "grow wild to woods when woods near 1 61", 37);
        wrongAt(x, "grow wild to woods when woods near 1 1 1", 39);
        wrongAt(x, "homes 2 on 1" + (char) 0, 12);
        wrongAt(x, "homes 2 on 1;" + (char) 225, 13);
        wrongAt(x, "homes" + (char) 160 + "2 on 1", 5);
        wrongAt(x, "homes 2 on 1;works 2 on 1;farms 2 at 1", 34);
        faultOfFifteenthLine(x);
        Checks.bookOf(x, "wild 1 on 0");
        due("9 none without one", x.fault(), -1);
    }

    private static void faultOfFifteenthLine(LandUses x) {
        StringBuilder text = new StringBuilder();
        for (int i = 0; i < 14; i++) {
            text.append("wild 1 on 0;");
        }
        String fourteen = text.toString();
        wrongAt(x, fourteen, 168);
        wrongAt(x, fourteen + "  ", 170);
        wrongAt(x, fourteen + "  wild 1 on 0", 170);
        wrongAt(x, fourteen + "wild", 168);
        wrongAt(x, fourteen + " law wild most 777", 169);
        wrongAt(x, fourteen + " grow", 169);
        wrongAt(x, fourteen + "  5", 170);
        wrongAt(x, fourteen.replace("on 0;", "on 0 ;") + "wild 1 on 0", 182);
    }

    private static void wrongAt(LandUses x, String text, int place) {
        Checks.write(x, text);
        Checks.dueThrows("9 book of '" + text + "'", x::book, ARGUMENT);
        due("9 fault of '" + text + "'", x.fault(), place);
    }

    private static void worthOfNear() {
        LandUses x = Checks.withBook("homes 3 near woods 2");
        Checks.draw(x, "h.t..t");
        due("10 two steps away", x.worth(), 3);
        Checks.draw(x, "hht..t");
        due("10 from each", x.worth(), 6);
        Checks.draw(x, "hht..t", "......", ".t....");
        due("10 king's steps", x.worth(), 12);
        due("10 another book", Checks.bookOf(x, "homes minus 5 near homes 1"), 1);
        due("10 of one use each pair twice, itself not", x.worth(), -10);
        x.use(0, 59, 1);
        due("10 all homes", Checks.bookOf(x, "homes 99 near homes 5"), 1);
        int pairs = 0;
        for (int a = 0; a < 60; a++) {
            for (int b = 0; b < 60; b++) {
                pairs += a != b && Math.max(Math.abs(a % 10 - b % 10), Math.abs(a / 10 - b / 10)) <= 5 ? 1 : 0;
            }
        }
        due("10 worth of all", x.worth(), 99 * pairs);
        LandUses edge = Checks.withBook("homes 1 near woods 1");
        edge.use(9, 9, 1);
        edge.use(10, 10, 4);
        due("10 a row's end is not near the next row's begin", edge.worth(), 0);
        LandUses wild = Checks.withBook("wild 1 near homes 1");
        wild.use(0, 0, 1);
        due("10 wild is a use", wild.worth(), 3);
        wild.use(11, 11, 1);
        due("10 wild near two", wild.worth(), 2 + 7);
    }

    private static void worthOfOn() {
        LandUses x = Checks.withBook("farms 7 on 4");
        x.use(0, 4, 3);
        x.soil(0, 0, 3);
        x.soil(1, 1, 4);
        x.soil(2, 2, 9);
        x.soil(5, 5, 9);
        due("10 soil so high at least", x.worth(), 14);
        Checks.bookOf(x, "farms 7 on 0;farms minus 2 on 9");
        due("10 sum of lines", x.worth(), 35 - 2);
        Checks.bookOf(x, "farms 0 on 0;farms minus 0 on 0");
        due("10 worth 0", x.worth(), 0);
    }

    private static void adds() {
        LandUses x = Checks.withBook("homes 2 near woods 1;law homes most 0;homes minus 3 on 0;"
                + "grow homes to woods when woods near 1 1");
        Checks.draw(x, "ht");
        due("11 near", x.adds(0), 2);
        due("11 a law", x.adds(1), 0);
        due("11 on", x.adds(2), -3);
        due("11 growth", x.adds(3), 0);
        due("11 sum", x.worth(), -1);
        Checks.dueThrows("11 4", () -> x.adds(4), INDEX);
        Checks.dueThrows("11 -1", () -> x.adds(-1), INDEX);
        Checks.dueThrows("11 highest", () -> x.adds(HIGH), INDEX);
        Checks.dueThrows("11 no book", () -> new LandUses().adds(0), INDEX);
        Checks.bookOf(x, "homes 1 on 0");
        Checks.dueThrows("11 a line of the book before", () -> x.adds(1), INDEX);
    }

    private static void brokenApart() {
        LandUses x = Checks.withBook("law homes apart works 3");
        due("12 none there", x.broken(), -1);
        Checks.draw(x, "h..w");
        due("12 as many steps", x.broken(), -1);
        Checks.draw(x, "h.w.");
        due("12 fewer steps", x.broken(), 0);
        Checks.draw(x, "h...", "....", "..w.");
        due("12 fewer king's steps", x.broken(), 0);
        Checks.draw(x, "h...", "....", "....", "..w.");
        due("12 as many king's steps", x.broken(), -1);
        Checks.bookOf(x, "law homes apart homes 2");
        due("12 of one use, one alone", x.broken(), -1);
        Checks.draw(x, "h.h.");
        due("12 of one use, far", x.broken(), -1);
        Checks.draw(x, "hhh.");
        due("12 of one use, near", x.broken(), 0);
        Checks.bookOf(x, "law homes apart homes 1;law homes apart wild 1");
        due("12 none is fewer than one from another", x.broken(), -1);
        Checks.bookOf(x, "homes 1 on 1;law homes apart homes 1;law wild apart homes 2;law homes apart homes 2");
        due("12 the first line that does not hold", x.broken(), 2);
    }

    private static void brokenCounts() {
        LandUses x = Checks.withBook("law farms least 2;law farms most 3");
        due("12 too few", x.broken(), 0);
        Checks.draw(x, "ff");
        due("12 as few as may be", x.broken(), -1);
        Checks.draw(x, "fff");
        due("12 as many as may be", x.broken(), -1);
        Checks.draw(x, "ffff");
        due("12 too many", x.broken(), 1);
        Checks.bookOf(x, "law farms least 0;law works most 0");
        due("12 none", x.broken(), -1);
        Checks.bookOf(x, "law wild least 61");
        due("12 more than there are", x.broken(), 0);
    }

    private static void brokenJoined() {
        LandUses x = Checks.withBook("law homes joined");
        due("12 none are joined", x.broken(), -1);
        Checks.draw(x, "h");
        due("12 one is joined", x.broken(), -1);
        Checks.draw(x, "h.", ".h");
        due("12 corners do not join", x.broken(), 0);
        Checks.draw(x, "h.", "hh");
        due("12 joined", x.broken(), -1);
        Checks.draw(x, "..........", "..........");
        x.use(9, 10, 0);
        x.use(9, 9, 1);
        x.use(10, 10, 1);
        due("12 rows' ends do not join", x.broken(), 0);
        Checks.draw(x,
                "hhhhhhhhhh",
                ".........h",
                "hhhhhhhhhh",
                "h.........",
                "hhhhhhhhhh",
                ".........h");
        due("12 a long way", x.broken(), -1);
        Checks.draw(x,
                "hhhhhhhhhh",
                ".........h",
                "hhhhh.hhhh",
                "h.........",
                "hhhhhhhhhh",
                ".........h");
        due("12 a gap in it", x.broken(), 0);
    }

    private static void years() {
        LandUses x = new LandUses();
        due("13 0", x.years(0), 0);
        due("13 20", x.years(20), 20);
        due("13 count", x.count(9), 20);
        Checks.dueThrows("13 21", () -> x.years(21), ARGUMENT);
        Checks.dueThrows("13 -1", () -> x.years(-1), ARGUMENT);
        Checks.dueThrows("13 lowest", () -> x.years(LOW), ARGUMENT);
        due("13 stays", x.count(9), 20);
        for (int i = 2; i <= 49; i++) {
            due("13 on", x.years(20), 20 * i);
        }
        due("13 990", x.years(10), 990);
        Checks.bookOf(x, "grow wild to homes when homes near 1 1");
        x.use(0, 0, 1);
        due("13 as far as it may go", x.years(4), 994);
        x.use(0, 59, 0);
        x.use(0, 0, 1);
        due("13 998", x.years(4), 998);
        x.use(0, 59, 0);
        x.use(0, 0, 1);
        due("13 last", x.years(20), 1000);
        due("13 two years of growth", x.count(1), 9);
        due("13 no more", x.years(5), 1000);
        due("13 no more growth", x.count(1), 9);
        due("13 0 at last", x.years(0), 1000);
        Checks.dueThrows("13 21 at last", () -> x.years(21), ARGUMENT);
    }

    private static void growth() {
        LandUses x = Checks.withBook("grow wild to farms when homes near 2 2;grow wild to woods when homes near 1 1;"
                + "grow farms to wild when farms near 1 3");
        Checks.draw(x, "h..h");
        due("13 year", x.years(1), 1);
        due("13 the first line counts", x.look(1, 0), 3);
        due("13 the first line counts", x.look(2, 0), 3);
        due("13 the second line", x.look(10, 0), 4);
        due("13 both near", x.look(11, 0), 3);
        due("13 two steps below", x.look(21, 0), 3);
        due("13 two steps of one", x.look(20, 0), 0);
        due("13 homes stay", x.count(1), 2);
        due("13 year", x.years(1), 2);
        due("13 all at once", x.look(11, 0), 0);
        due("13 farm with three farms", x.look(1, 0), 0);
        LandUses self = Checks.withBook("grow homes to works when homes near 5 2");
        self.use(0, 1, 1);
        self.years(1);
        due("13 itself is not counted", self.count(2), 0);
        self.use(2, 2, 1);
        self.years(1);
        due("13 as many as its last number", self.count(2), 3);
        LandUses swap = Checks.withBook("grow homes to works when works near 1 1;grow works to homes when homes near 1 1");
        Checks.draw(swap, "hw");
        swap.years(1);
        due("13 by what there is at its begin", swap.look(0, 0), 2);
        due("13 by what there is at its begin", swap.look(1, 0), 1);
        due("13 three times more", swap.years(3), 4);
        due("13 swapped again", swap.look(0, 0), 1);
        LandUses same = Checks.withBook("grow wild to wild when wild near 1 1;grow wild to homes when wild near 1 1");
        same.years(1);
        due("13 the first line counts though it changes nothing", same.count(0), 60);
    }

    private static void can() {
        LandUses x = Checks.withBook("law homes least 2");
        due("14 nothing is free", x.can(), false);
        x.free(7, true);
        due("14 one is free", x.can(), false);
        x.free(8, true);
        due("14 two are free", x.can(), true);
        due("14 changes nothing", x.count(1), 0);
        Checks.bookOf(x, "law homes least 2;law homes apart homes 2");
        due("14 beside one another", x.can(), false);
        x.free(8, false);
        x.free(9, true);
        due("14 apart", x.can(), true);
        Checks.bookOf(x, "law wild least 59");
        due("14 free squares are not wild", x.can(), false);
        Checks.bookOf(x, "law wild least 58");
        due("14 the others stay", x.can(), true);
        Checks.bookOf(x, "law works apart works 2");
        x.use(50, 51, 2);
        due("14 broken by others", x.can(), false);
        LandUses grown = Checks.withBook("grow wild to farms when works near 1 1;law farms most 3");
        grown.use(0, 0, 2);
        due("14 before growth", grown.can(), true);
        grown.years(1);
        due("14 after growth", grown.can(), true);
        grown.use(9, 9, 2);
        due("14 before more growth", grown.can(), true);
        grown.years(1);
        due("14 after more growth", grown.can(), false);
        grown.years(0);
        due("14 after no growth", grown.can(), false);
    }

    private static void bestAndGiven() {
        LandUses x = Checks.withBook("woods 3 on 0;homes 3 on 0;works minus 1 on 0");
        x.use(20, 20, 2);
        x.free(5, true);
        x.free(3, true);
        due("15 worth of the land with it", x.best(), 5);
        due("16 the least use", x.given(3), 1);
        due("16 the least use", x.given(5), 1);
        due("16 its own", x.given(20), 2);
        due("16 its own", x.given(4), 0);
        due("16 changes nothing", x.look(3, 0), 0);
        Checks.bookOf(x, "woods 3 on 0;homes 3 on 0;law homes most 1");
        due("15 one of each", x.best(), 6);
        due("16 the least number has the least use", x.given(3), 1);
        due("16 then the next one", x.given(5), 4);
        Checks.bookOf(x, "homes minus 4 on 0;works minus 9 on 0;farms minus 4 on 0;woods minus 5 on 0");
        due("15 below 0", x.best(), -9 - 8);
        due("16 the least use of the least bad", x.given(5), 1);
        Checks.bookOf(x, "law homes least 3");
        Checks.dueThrows("15 none", x::best, NO_SUCH);
        due("16 none", x.given(3), -1);
        due("16 none of a square that is not free", x.given(20), -1);
        Checks.dueThrows("16 60", () -> x.given(60), INDEX);
        Checks.dueThrows("16 -1", () -> x.given(-1), INDEX);
        x.use(40, 40, 1);
        due("15 again one", x.best(), 0);
        x.soil(3, 3, 5);
        Checks.bookOf(x, "farms 2 on 5");
        due("15 soil", x.best(), 2);
        due("16 soil", x.given(3), 3);
        due("16 soil of the other", x.given(5), 1);
        x.soil(3, 3, 4);
        due("15 soil changed", x.best(), 0);
        x.free(3, false);
        x.free(5, false);
        due("15 nothing free", x.best(), 0);
        due("16 nothing free", x.given(40), 1);
    }

    private static void bestOfFive() {
        LandUses x = Checks.withBook("homes 5 near homes 1;law homes joined;law homes most 3;works 1 near homes 2;"
                + "law works apart works 2;law woods least 1");
        x.free(0, true);
        x.free(1, true);
        x.free(2, true);
        x.free(11, true);
        x.free(12, true);
        due("15 five free: three homes near one another, works near all of them", x.best(), 30 + 3);
        due("16 five free", x.given(0), 1);
        due("16 five free", x.given(1), 1);
        due("16 five free", x.given(2), 2);
        due("16 five free", x.given(11), 1);
        due("16 five free", x.given(12), 4);
    }

    private static void take() {
        LandUses x = Checks.withBook("homes 1 near woods 1;law homes most 1");
        x.free(0, true);
        x.free(1, true);
        x.years(3);
        due("17 take", x.take(), true);
        due("17 given", x.look(0, 0), 1);
        due("17 given", x.look(1, 0), 4);
        due("17 others", x.count(0), 58);
        due("17 still free", x.count(5), 2);
        due("17 year", x.count(9), 3);
        due("17 worth", x.worth(), 1);
        due("17 again", x.take(), true);
        due("17 the same", x.look(1, 0), 4);
        Checks.bookOf(x, "law farms least 3");
        due("17 none", x.take(), false);
        due("17 the same", x.look(0, 0), 1);
        x.free(0, false);
        x.free(1, false);
        Checks.bookOf(x, "law farms least 0");
        due("17 without free ones", x.take(), true);
        due("17 nothing changed", x.count(1), 1);
    }

    private static void cost() {
        LandUses x = Checks.withBook("homes 9 on 0;law homes most 0;law homes most 1;works 4 on 0;law works most 1;"
                + "grow wild to homes when homes near 1 1;law farms least 0");
        x.free(0, true);
        x.free(1, true);
        due("18 best", x.best(), 4);
        due("18 a law", x.cost(1), 9);
        due("18 another one holds the same", x.cost(2), 0);
        due("18 third law", x.cost(4), 4);
        due("18 costs nothing", x.cost(6), 0);
        Checks.dueThrows("18 worth", () -> x.cost(0), NO_SUCH);
        Checks.dueThrows("18 growth", () -> x.cost(5), NO_SUCH);
        Checks.dueThrows("18 7", () -> x.cost(7), INDEX);
        Checks.dueThrows("18 -1", () -> x.cost(-1), INDEX);
        Checks.dueThrows("18 lowest", () -> x.cost(LOW), INDEX);
        Checks.bookOf(x, "law homes least 3;homes 1 on 0");
        Checks.dueThrows("18 no best", () -> x.cost(0), NO_SUCH);
        Checks.dueThrows("18 no best and no law", () -> x.cost(1), NO_SUCH);
        Checks.dueThrows("18 no best and no line", () -> x.cost(2), INDEX);
        Checks.bookOf(x, "homes 2 near homes 1;law homes apart homes 2;law homes joined;law homes most 1");
        due("18 two laws hold it, apart", x.cost(1), 0);
        due("18 two laws hold it, most", x.cost(3), 0);
        Checks.bookOf(x, "homes 2 near homes 1;law homes apart homes 2");
        due("18 apart", x.cost(1), 4);
        x.free(1, false);
        x.free(2, true);
        Checks.bookOf(x, "homes 2 on 0;law homes joined;woods 1 on 0");
        due("18 joined", x.cost(1), 1);
        Checks.bookOf(x, "homes minus 2 on 0;law homes least 2");
        due("18 least", x.cost(1), 4);
        due("18 changes nothing", x.count(0), 60);
        costOfFirstLine();
    }

    private static void costOfFirstLine() {
        LandUses x = Checks.withBook("law works apart homes 2;homes 5 on 0;farms 2 on 0");
        x.use(0, 0, 2);
        x.free(1, true);
        due("18 apart from one square that is not free", x.best(), 2);
        due("18 the first line", x.cost(0), 3);
        Checks.bookOf(x, "law homes most 0;homes 5 on 0;law homes apart works 2;farms 2 on 0");
        due("18 without one the other still forbids", x.cost(0), 0);
        x.use(0, 0, 0);
        due("18 once the other holds, all of it", x.cost(0), 3);
        Checks.bookOf(x, "law homes apart works 2;homes 5 near works 1;law works apart works 2;works 1 on 0");
        x.free(2, true);
        due("18 best apart", x.best(), 1);
        due("18 a pair of free squares, homes first", x.cost(0), 5);
        due("18 a pair of free squares of one use", x.cost(2), 1);
    }

    private static void look() {
        LandUses x = new LandUses();
        Checks.draw(x, "hhw", "hfh", ".ht");
        x.soil(11, 11, 6);
        x.free(11, true);
        due("19 use", x.look(11, 0), 3);
        due("19 soil", x.look(11, 1), 6);
        due("19 free", x.look(11, 2), 1);
        due("19 not free", x.look(12, 2), 0);
        due("19 none beside", x.look(11, 3), 0);
        due("19 two beside", x.look(0, 3), 2);
        due("19 one beside", x.look(1, 3), 1);
        due("19 none beside, corners do not count", x.look(12, 3), 0);
        due("19 wild in the middle", x.look(45, 3), 4);
        due("19 wild at a corner", x.look(59, 3), 2);
        due("19 wild at the left", x.look(40, 3), 3);
        due("19 wild at the right", x.look(39, 3), 3);
        due("19 wild below", x.look(55, 3), 3);
        x.use(9, 9, 4);
        x.use(10, 10, 4);
        due("19 rows' ends are not beside", x.look(9, 3), 0);
        due("19 rows' ends are not beside", x.look(10, 3), 0);
        Checks.dueThrows("19 what 4", () -> x.look(0, 4), NO_SUCH);
        Checks.dueThrows("19 what -1", () -> x.look(0, -1), NO_SUCH);
        Checks.dueThrows("19 what lowest", () -> x.look(0, LOW), NO_SUCH);
        Checks.dueThrows("19 60", () -> x.look(60, 0), INDEX);
        Checks.dueThrows("19 -1 and what 4", () -> x.look(-1, 4), INDEX);
    }

    private static void keep() {
        LandUses x = new LandUses();
        for (int i = 0; i < 6; i++) {
            x.use(i, i, 2);
            due("20 keep", x.keep(), i);
            due("20 plans", x.count(8), i + 1);
        }
        x.use(0, 59, 4);
        due("20 a seventh", x.keep(), -1);
        due("20 six", x.count(8), 6);
        due("20 the last one is as it was", x.unlike(5, 4), 1);
        due("20 the first one is as it was", x.unlike(0, 5), 5);
        due("20 what the land is now is not kept", x.unlike(5, -1), 60);
    }

    private static void unlike() {
        LandUses x = new LandUses();
        due("21 the land and itself", x.unlike(-1, -1), 0);
        Checks.dueThrows("21 no plan", () -> x.unlike(0, -1), INDEX);
        Checks.dueThrows("21 no plan behind", () -> x.unlike(-1, 0), INDEX);
        x.keep();
        Checks.draw(x, "hwft");
        due("21 plan and land", x.unlike(0, -1), 4);
        due("21 land and plan", x.unlike(-1, 0), 4);
        x.keep();
        x.use(2, 9, 1);
        due("21 two plans", x.unlike(0, 1), 4);
        due("21 a plan and itself", x.unlike(1, 1), 0);
        due("21 another use", x.unlike(1, -1), 8);
        x.soil(0, 59, 5);
        x.free(0, true);
        due("21 uses alone", x.unlike(1, -1), 8);
        Checks.dueThrows("21 2", () -> x.unlike(2, 0), INDEX);
        Checks.dueThrows("21 2 behind", () -> x.unlike(0, 2), INDEX);
        Checks.dueThrows("21 -2", () -> x.unlike(-2, 0), INDEX);
        Checks.dueThrows("21 -2 behind", () -> x.unlike(0, -2), INDEX);
        Checks.dueThrows("21 lowest", () -> x.unlike(LOW, HIGH), INDEX);
    }

    private static void back() {
        LandUses x = new LandUses();
        Checks.dueThrows("22 none", () -> x.back(0), INDEX);
        x.keep();
        Checks.draw(x, "hwft");
        x.soil(0, 0, 8);
        x.free(1, true);
        x.gate(3);
        x.years(2);
        x.keep();
        due("22 back", x.back(0), 4);
        due("22 wild", x.count(0), 60);
        due("22 again", x.back(0), 0);
        due("22 soil stays", x.look(0, 1), 8);
        due("22 free stays", x.look(1, 2), 1);
        due("22 year stays", x.count(9), 2);
        due("22 plans stay", x.count(8), 2);
        due("22 forth", x.back(1), 4);
        due("22 woods", x.look(3, 0), 4);
        due("22 gate stays", x.far(), 3);
        x.use(0, 59, 2);
        due("22 a plan does not change with the land", x.back(1), 59);
        Checks.dueThrows("22 the land is no plan", () -> x.back(-1), INDEX);
        Checks.dueThrows("22 2", () -> x.back(2), INDEX);
        Checks.dueThrows("22 highest", () -> x.back(HIGH), INDEX);
        Checks.bookOf(x, "law homes most 1;law homes least 1");
        x.free(1, false);
        due("22 can", x.can(), true);
        x.back(0);
        due("22 cannot", x.can(), false);
    }

    private static void far() {
        LandUses x = new LandUses();
        due("23 without homes", x.far(), 0);
        Checks.draw(x, "h");
        due("23 at the gate", x.far(), 0);
        Checks.draw(x, "h..h");
        due("23 three steps", x.far(), 3);
        Checks.draw(x, "h.th");
        due("23 round woods", x.far(), 5);
        Checks.draw(x, "h.t.", "t.t.", "tttt");
        due("23 no homes behind woods", x.far(), 0);
        Checks.draw(x, "h.th", "t.th", "tttt");
        due("23 no way", x.far(), -1);
        x.gate(3);
        due("23 no way from there", x.far(), -1);
        x.gate(20);
        due("23 woods as gate", x.far(), -1);
        Checks.draw(x, "h.t.", "t.t.", "tttt");
        due("23 woods as gate, woods around", x.far(), -1);
        x.gate(12);
        due("23 from woods to homes", x.far(), 3);
        Checks.draw(x, "hhhh", "hwfh", "....");
        x.gate(0);
        due("23 by works, farms and homes", x.far(), 4);
        x.gate(9);
        x.use(0, 59, 0);
        x.use(10, 10, 1);
        due("23 not round the land's edge", x.far(), 10);
        Checks.draw(x,
                "..........",
                "ttttttttt.",
                "..........",
                ".ttttttttt",
                "..........",
                "ttttttttth");
        x.gate(0);
        due("23 a long way", x.far(), 9 + 2 + 9 + 2 + 9 + 1);
        due("23 the farthest of two", x.use(1, 1, 1), 1);
        due("23 the farthest of two", x.far(), 32);
    }

    private static void count() {
        LandUses x = Checks.withBook("law wild joined;homes 1 on 0;law wild most 60");
        Checks.draw(x, "hwwffftttt");
        x.free(0, true);
        x.free(1, true);
        x.keep();
        x.years(7);
        int[] due = {50, 1, 2, 3, 4, 2, 3, 2, 1, 7};
        for (int what = 0; what < due.length; what++) {
            due("24 count " + what, x.count(what), due[what]);
        }
        due("24 10", x.count(10), -1);
        due("24 -1", x.count(-1), -1);
        due("24 lowest", x.count(LOW), -1);
        due("24 highest", x.count(HIGH), -1);
    }

    private static void callsThatThrowChangeNothing() {
        LandUses x = Checks.withBook("wild 1 on 0");
        Checks.write(x, "wild 2 on 0");
        Checks.answer(() -> x.use(60, 0, 1));
        Checks.answer(() -> x.adds(1));
        Checks.answer(() -> x.years(21));
        Checks.answer(() -> x.cost(0));
        due("a call that throws leaves the tape", x.end(11), true);
        due("its text is still there", x.book(), 1);
        due("and read", x.worth(), 120);
    }
}
