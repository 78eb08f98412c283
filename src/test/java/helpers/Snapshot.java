import java.util.function.Supplier;

/**
 * All that calls can tell of a land, as one text. Each part is asked of an object of its own, made
 * anew, so that no part disturbs another and no object is used for more than 512 calls.
 */
final class Snapshot {
    private Snapshot() {
    }

    static String of(Supplier<LandUses> made) {
        return withoutTape(made) + " fault " + made.get().fault() + tape(made);
    }

    /** Without the tape and what the latest book() said of it. */
    static String withoutTape(Supplier<LandUses> made) {
        return squares(made.get()) + counts(made.get()) + lines(made.get()) + best(made.get()) + gate(made.get())
                + plans(made);
    }

    private static String squares(LandUses x) {
        StringBuilder text = new StringBuilder("squares");
        for (int square = 0; square < 60; square++) {
            text.append(' ');
            for (int what = 0; what < 4; what++) {
                text.append(x.look(square, what));
            }
        }
        return text.toString();
    }

    private static String counts(LandUses x) {
        StringBuilder text = new StringBuilder("\ncounts");
        for (int what = 0; what <= 9; what++) {
            text.append(' ').append(x.count(what));
        }
        return text.append(" worth ").append(x.worth()).append(" broken ").append(x.broken())
                .append(" far ").append(x.far()).toString();
    }

    private static String lines(LandUses x) {
        StringBuilder text = new StringBuilder("\nlines");
        for (int line = 0; line < 15; line++) {
            int at = line;
            text.append(' ').append(Checks.answer(() -> x.adds(at)));
            text.append('/').append(Checks.answer(() -> x.cost(at)));
        }
        x.years(1);
        text.append(" grown to");
        for (int square = 0; square < 60; square++) {
            text.append(' ').append(x.look(square, 0));
        }
        return text.toString();
    }

    private static String best(LandUses x) {
        StringBuilder text = new StringBuilder("\nbest ");
        text.append(x.can()).append(' ').append(Checks.answer(x::best));
        for (int square = 0; square < 60; square++) {
            text.append(' ').append(x.given(square));
        }
        return text.append(' ').append(x.take()).append(' ').append(x.worth()).toString();
    }

    /** The steps from two corners tell which square it is. */
    private static String gate(LandUses x) {
        x.use(0, 59, 0);
        x.use(0, 0, 1);
        int fromLeft = x.far();
        x.use(0, 0, 0);
        x.use(9, 9, 1);
        return "\ngate " + fromLeft + " " + x.far();
    }

    private static String plans(Supplier<LandUses> made) {
        StringBuilder text = new StringBuilder("\nplans");
        int plans = made.get().count(8);
        for (int plan = 0; plan < plans; plan++) {
            LandUses x = made.get();
            text.append(' ').append(x.back(plan)).append(':');
            for (int square = 0; square < 60; square++) {
                text.append(x.look(square, 0));
            }
        }
        return text.append(" next ").append(made.get().keep()).toString();
    }

    /** How long it is, and what it reads as. */
    private static String tape(Supplier<LandUses> made) {
        LandUses x = made.get();
        return "\ntape " + length(made.get()) + " " + Checks.answer(x::book) + " " + x.fault() + " " + x.worth() + " "
                + x.broken();
    }

    private static int length(LandUses x) {
        int fed = x.feed(0, 0, 0, 0, 0);
        if (fed >= 0) {
            return fed - 20;
        }
        for (int n = 400; n > 380; n--) {
            if (x.end(n)) {
                return n;
            }
        }
        return -1;
    }
}
