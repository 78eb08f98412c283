import java.util.function.Supplier;

/** What the project's tests share: telling wrong answers, and feeding texts. */
final class Checks {
    private static int wrong = 0;
    private static int asked = 0;

    private Checks() {
    }

    static void due(String what, Object got, Object want) {
        asked++;
        if (!want.equals(got)) {
            wrong++;
            System.out.println(what + " answered " + got + ", due is " + want);
        }
    }

    /** A call's answer, or the simple name of the exception that it throws behind "throws.". */
    static Object answer(Supplier<Object> call) {
        try {
            return call.get();
        } catch (RuntimeException e) {
            return "throws." + e.getClass().getSimpleName();
        }
    }

    static void dueThrows(String what, Supplier<Object> call, Class<? extends RuntimeException> want) {
        due(what, answer(call), "throws." + want.getSimpleName());
    }

    /** Puts a text of signs 0 to 255 on an empty tape. */
    static void write(LandUses land, String text) {
        for (int i = 0; i < text.length(); i += 20) {
            land.feed(four(text, i), four(text, i + 4), four(text, i + 8), four(text, i + 12), four(text, i + 16));
        }
        land.end(text.length());
    }

    private static int four(String text, int from) {
        int number = 0;
        for (int i = from; i < from + 4; i++) {
            number = number << 8 | (i < text.length() ? text.charAt(i) : 0);
        }
        return number;
    }

    static int bookOf(LandUses land, String text) {
        write(land, text);
        return land.book();
    }

    static LandUses withBook(String text) {
        LandUses land = new LandUses();
        bookOf(land, text);
        return land;
    }

    /** Sets single squares; each row of signs: '.' wild, 'h' homes, 'w' works, 'f' farms, 't' woods. */
    static void draw(LandUses land, String... rows) {
        for (int y = 0; y < rows.length; y++) {
            for (int x = 0; x < rows[y].length(); x++) {
                land.use(10 * y + x, 10 * y + x, ".hwft".indexOf(rows[y].charAt(x)));
            }
        }
    }

    /** Ends the test: with exit code 1 if an answer was wrong. */
    static void finish() {
        System.out.println(asked + " answers, " + wrong + " of them wrong");
        if (wrong != 0 || asked == 0) {
            System.exit(1);
        }
    }
}
