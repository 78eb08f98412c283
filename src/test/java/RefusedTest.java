import java.util.function.Consumer;
import java.util.function.Function;

/**
 * A call that throws, or is refused by false or NONE, changes nothing: all that can be told of an object
 * with it and of one without it is the same. Asking changes nothing either.
 */
public final class RefusedTest {
    private static final String INDEX = "throws.IndexOutOfBoundsException";
    private static final String ARGUMENT = "throws.IllegalArgumentException";
    private static final String NO_SUCH = "throws.NoSuchElementException";
    private static final int LOW = Integer.MIN_VALUE;
    private static final int HIGH = Integer.MAX_VALUE;
    private static final int[] NO_SQUARES = {-1, 60, LOW, HIGH};

    private final String name;
    private final Consumer<LandUses> setting;
    private final String before;
    private final String beforeWithoutTape;

    private RefusedTest(String name, Consumer<LandUses> setting) {
        this.name = name;
        this.setting = setting;
        before = Snapshot.of(this::made);
        beforeWithoutTape = Snapshot.withoutTape(this::made);
    }

    public static void main(String[] args) {
        RefusedTest[] all = {
            new RefusedTest("new", x -> { }),
            new RefusedTest("rich", RefusedTest::rich),
            new RefusedTest("full", RefusedTest::full),
            new RefusedTest("without a best", RefusedTest::withoutBest),
        };
        for (RefusedTest test : all) {
            test.noSuchSquare();
            test.noSuchUseOrSoil();
            test.noSuchLineOrPlan();
            test.noSuchYearsOrWhat();
            test.tapeTooShortOrTooLong();
            test.wrongBooks();
            test.asking();
        }
        all[0].refusedByANewOne();
        all[1].refusedByARichOne();
        all[2].refusedByAFullOne();
        all[3].refusedWithoutABest();
        for (RefusedTest test : all) {
            test.changesAreSeen();
        }
        Checks.finish();
    }

    private LandUses made() {
        LandUses x = new LandUses();
        setting.accept(x);
        return x;
    }

    private LandUses madeAnd(Function<LandUses, Object> call) {
        LandUses x = made();
        Checks.answer(() -> call.apply(x));
        return x;
    }

    /** Uses, soils, free squares with uses of their own, two books, plans, a gate, years, and a text on the tape. */
    private static void rich(LandUses x) {
        Checks.bookOf(x, "woods 5 on 0;law wild joined");
        Checks.bookOf(x, "homes 3 near woods 2;works minus 2 near homes 1;farms 4 on 5;law homes most 4;"
                + "law works apart works 2;grow wild to woods when woods near 1 2;law homes joined;"
                + "grow woods to farms when homes near 2 3");
        x.soil(0, 25, 6);
        x.soil(50, 59, 9);
        Checks.draw(x, "hht.....w", "h.t", ".ff");
        x.keep();
        x.use(33, 45, 4);
        x.keep();
        x.years(1);
        x.gate(37);
        x.free(59, true);
        x.free(3, true);
        x.free(11, true);
        Checks.write(x, "wild 2 on 0;law homes least 9");
    }

    /** Five free, six plans, a tape of 400 bytes, fourteen lines, the last year. */
    private static void full(LandUses x) {
        for (int i = 0; i < 50; i++) {
            x.years(20);
        }
        Checks.bookOf(x, "homes 1 on 0;law homes most 2;farms 2 on 1;law homes joined;law farms most 1;woods 1 on 0;"
                + "works 1 on 0;law works least 0;law woods most 3;law wild least 9;wild 1 on 0;wild 1 on 1;"
                + "law wild most 60;homes 1 near homes 1");
        for (int i = 0; i < 6; i++) {
            x.use(11 * i, 11 * i, 1 + i % 4);
            x.soil(i, 50 + i, i);
            x.keep();
        }
        for (int i = 0; i < 5; i++) {
            x.free(7 * i + 2, true);
        }
        x.gate(59);
        Checks.write(x, "law wild joined;wild 7 on 0" + " ".repeat(373));
    }

    private static void withoutBest(LandUses x) {
        rich(x);
        x.end(0);
        Checks.bookOf(x, "homes 2 on 0;law farms least 9;law woods most 1");
        Checks.write(x, "wild 2 on 3;x");
        Checks.answer(x::book);
        Checks.write(x, "woods 9 on 0");
    }

    /** The call answers so, and nothing has changed. */
    private void refused(String what, Object want, Function<LandUses, Object> call) {
        LandUses x = made();
        Checks.due(name + ": " + what, Checks.answer(() -> call.apply(x)), want);
        Checks.due(name + ": after " + what, Snapshot.of(() -> madeAnd(call)), before);
        Checks.due(name + ": again " + what, Checks.answer(() -> call.apply(x)), want);
    }

    private void refusedAt(String what, int square, Function<LandUses, Object> call) {
        refused(what + " at " + square, INDEX, call);
    }

    private void noSuchSquare() {
        for (int s : NO_SQUARES) {
            refusedAt("use from", s, x -> x.use(s, 59, 1));
            refusedAt("use to", s, x -> x.use(0, s, 1));
            refusedAt("use from and no use", s, x -> x.use(s, 0, 5));
            refusedAt("use to and no use", s, x -> x.use(59, s, -1));
            refusedAt("soil from", s, x -> { x.soil(s, 59, 3); return 0; });
            refusedAt("soil to", s, x -> { x.soil(0, s, 3); return 0; });
            refusedAt("soil from and no soil", s, x -> { x.soil(s, 59, 10); return 0; });
            refusedAt("soil to and no soil", s, x -> { x.soil(0, s, -1); return 0; });
            refusedAt("free", s, x -> x.free(s, true));
            refusedAt("free not", s, x -> x.free(s, false));
            refusedAt("gate", s, x -> { x.gate(s); return 0; });
            refusedAt("given", s, x -> x.given(s));
            refusedAt("look", s, x -> x.look(s, 0));
            refusedAt("look and no what", s, x -> x.look(s, 4));
        }
    }

    private void noSuchUseOrSoil() {
        for (int use : new int[] {-1, 5, LOW, HIGH}) {
            refused("use " + use, ARGUMENT, x -> x.use(0, 59, use));
            refused("use " + use + " of one square", ARGUMENT, x -> x.use(0, 0, use));
        }
        for (int soil : new int[] {-1, 10, LOW, HIGH}) {
            refused("soil " + soil, ARGUMENT, x -> { x.soil(0, 59, soil); return 0; });
        }
    }

    private void noSuchLineOrPlan() {
        int lines = made().count(6);
        for (int line : new int[] {-1, lines, lines + 1, LOW, HIGH}) {
            refused("adds of line " + line, INDEX, x -> x.adds(line));
            refused("cost of line " + line, INDEX, x -> x.cost(line));
        }
        int plans = made().count(8);
        for (int plan : new int[] {-2, plans, plans + 1, LOW, HIGH}) {
            refused("unlike plan " + plan, INDEX, x -> x.unlike(plan, -1));
            refused("the land unlike plan " + plan, INDEX, x -> x.unlike(-1, plan));
            refused("back to plan " + plan, INDEX, x -> x.back(plan));
        }
        refused("back to the land", INDEX, x -> x.back(-1));
    }

    private void noSuchYearsOrWhat() {
        for (int n : new int[] {-1, 21, LOW, HIGH}) {
            refused("years " + n, ARGUMENT, x -> x.years(n));
        }
        for (int what : new int[] {-1, 4, LOW, HIGH}) {
            refused("look " + what, NO_SUCH, x -> x.look(0, what));
        }
        for (int what : new int[] {-1, 10, LOW, HIGH}) {
            refused("count " + what, -1, x -> x.count(what));
        }
    }

    private void tapeTooShortOrTooLong() {
        refused("end -1", false, x -> x.end(-1));
        refused("end lowest", false, x -> x.end(LOW));
        refused("end 401", false, x -> x.end(401));
        refused("end highest", false, x -> x.end(HIGH));
    }

    /** By a wrong text all stays; the tape alone is used up. */
    private void wrongBooks() {
        String[] texts = {"x", "law", "homes 9 on 0;homes 9 on 0;", "law wild most 0;grow wild to homes when wild near 1 1;x",
            "homes 1 on 0;".repeat(14) + "homes 1 on 0", "homes 100 on 0", ";" };
        for (String text : texts) {
            Function<LandUses, Object> call = x -> {
                x.end(0);
                Checks.write(x, text);
                return x.book();
            };
            Checks.due(name + ": book " + text, Checks.answer(() -> call.apply(made())), ARGUMENT);
            Checks.due(name + ": after " + text, Snapshot.withoutTape(() -> madeAnd(call)), beforeWithoutTape);
            Checks.due(name + ": no tape after " + text, madeAnd(call).end(1), false);
            Checks.due(name + ": no tape after " + text, madeAnd(call).feed(0, 0, 0, 0, 0), 20);
        }
    }

    private void asking() {
        Function<LandUses, Object> questions = x -> {
            x.fault();
            x.worth();
            x.broken();
            x.can();
            Checks.answer(x::best);
            x.given(3);
            x.given(0);
            for (int line = 0; line < 14; line++) {
                int at = line;
                Checks.answer(() -> x.adds(at));
                Checks.answer(() -> x.cost(at));
            }
            x.unlike(-1, -1);
            Checks.answer(() -> x.unlike(0, 1));
            x.far();
            for (int what = 0; what < 10; what++) {
                x.count(what);
            }
            for (int what = 0; what < 4; what++) {
                x.look(59, what);
            }
            return x.years(0);
        };
        Checks.due(name + ": after asking", Snapshot.of(() -> madeAnd(questions)), before);
    }

    private void refusedByANewOne() {
        refused("free not, of one that is not", false, x -> x.free(0, false));
        refused("end 1 of none", false, x -> x.end(1));
        refused("no line 0", INDEX, x -> x.adds(0));
        refused("no plan 0", INDEX, x -> x.back(0));
    }

    private void refusedByARichOne() {
        refused("free, of one that is", false, x -> x.free(3, true));
        refused("free not, of one that is not", false, x -> x.free(4, false));
        refused("cost of a worth", NO_SUCH, x -> x.cost(0));
        refused("cost of growth", NO_SUCH, x -> x.cost(5));
        refused("end by one too many", false, x -> x.end(30));
        refused("use that all have", 0, x -> x.use(3, 3, x.look(3, 0)));
        refused("soil that all have", "", x -> { x.soil(50, 59, 9); return ""; });
        refused("the gate that is", "", x -> { x.gate(37); return ""; });
        refused("end with all", true, x -> x.end(29));
    }

    private void refusedByAFullOne() {
        refused("a sixth free one", false, x -> x.free(0, true));
        refused("one of the five", false, x -> x.free(2, true));
        refused("free not, of one that is not", false, x -> x.free(0, false));
        refused("a seventh plan", -1, x -> x.keep());
        refused("a tape of more than 400", -1, x -> x.feed(0x78787878, 0, -1, LOW, HIGH));
        refused("a year behind the last", 1000, x -> x.years(1));
        refused("twenty years behind the last", 1000, x -> x.years(20));
        refused("cost of a worth", NO_SUCH, x -> x.cost(13));
        for (int length = 381; length < 400; length++) {
            int n = length;
            RefusedTest shorter = new RefusedTest("full, tape of " + n, x -> { full(x); x.end(n); });
            shorter.refused("feed", -1, x -> x.feed(0x78787878, 0, -1, LOW, HIGH));
        }
    }

    private void refusedWithoutABest() {
        refused("best", NO_SUCH, LandUses::best);
        refused("take", false, LandUses::take);
        refused("can", false, LandUses::can);
        refused("given of a free square", -1, x -> x.given(3));
        refused("given of another one", -1, x -> x.given(0));
        refused("cost of a law", NO_SUCH, x -> x.cost(1));
        refused("cost of another law", NO_SUCH, x -> x.cost(2));
        refused("cost of a worth", NO_SUCH, x -> x.cost(0));
        refused("cost of no line", INDEX, x -> x.cost(3));
    }

    /** What a snapshot is for: each call that changes something can be seen in it. */
    private void changesAreSeen() {
        boolean full = name.equals("full");
        seen("use", x -> x.use(58, 58, 2));
        seen("use of a free square", x -> x.use(3, 3, 3));
        seen("soil", x -> { x.soil(48, 48, 8); return 0; });
        seen("free", x -> full ? x.free(2, false) : x.free(48, true));
        seen("gate", x -> { x.gate(36); return 0; });
        seen("a book", x -> { x.end(0); Checks.write(x, "law homes most 0"); return x.book(); });
        if (!full) {
            seen("feed", x -> x.feed(0, 0, 0, 0, 0));
            seen("years", x -> x.years(1));
            seen("keep", LandUses::keep);
        }
        if (made().end(1)) {
            seen("end", x -> x.end(0));
            seen("the tape is used up", LandUses::book);
        }
        if (made().can() && made().count(5) > 0) {
            seen("take", LandUses::take);
        }
        if (made().count(8) > 0) {
            seen("back", x -> x.back(0));
        }
    }

    private void seen(String what, Function<LandUses, Object> call) {
        Checks.due(name + ": " + what + " is seen", Snapshot.of(() -> madeAnd(call)).equals(before), false);
    }
}
