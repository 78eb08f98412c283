import java.util.ArrayList;
import java.util.List;

/** The sentences about THE BOOK and its first wrong byte, one by one. */
public final class BookTest {
    private static final String[] USES = {"wild", "homes", "works", "farms", "woods"};
    private static final String[] WORDS = {"wild", "homes", "works", "farms", "woods", "law", "grow", "near", "on",
        "apart", "least", "most", "joined", "to", "when", "minus", "x", "z", "a", "laws", "la", "nearr", "ear", "homesworks",
        "wile", "xild", "wald"};
    private static final String[] SIGNS = {",", "-", "+", ".", "Law", "HOMES", "{", "`", "/", ":", "" + (char) 0,
        "" + (char) 9, "" + (char) 10, "" + (char) 31, "!", "" + (char) 127, "" + (char) 160, "" + (char) 255};
    /** What a line may go on with behind its begin: U a use, 'a-b' a number of these bounds, else words. */
    private static final String[][] BEGINS = {
        {"", "U law grow"},
        {"works", "minus 0-99"},
        {"works minus", "0-99"},
        {"works 7", "near on"},
        {"works minus 7", "near on"},
        {"works 7 near", "U"},
        {"works minus 7 near", "U"},
        {"works 7 near homes", "1-5"},
        {"works minus 7 near homes", "1-5"},
        {"works 7 on", "0-9"},
        {"works minus 7 on", "0-9"},
        {"law", "U"},
        {"law works", "apart least most joined"},
        {"law works apart", "U"},
        {"law works apart works", "1-5"},
        {"law works least", "0-99"},
        {"law works most", "0-99"},
        {"grow", "U"},
        {"grow works", "to"},
        {"grow works to", "U"},
        {"grow works to woods", "when"},
        {"grow works to woods when", "U"},
        {"grow works to woods when wild", "near"},
        {"grow works to woods when wild near", "1-5"},
        {"grow works to woods when wild near 3", "1-60"},
    };
    private static final String[] LINES = {
        "works 7 near homes 3", "works minus 7 near works 3", "works 7 on 3", "works minus 7 on 3",
        "law works apart homes 3", "law works least 7", "law works most 7", "law works joined",
        "grow works to woods when wild near 3 7",
    };

    public static void main(String[] args) {
        atMostFourteenLines();
        aFifteenthLine();
        eachThingInEachPlace();
        moreMustCome();
        nothingBehindALineButASemicolon();
        numbersMeanWhatTheyShow();
        usesMeanWhatTheyShow();
        wordsGoAsFarAsLetters();
        blanksAre32Alone();
        blanksMayBeBetweenAll();
        emptyOrBlanksAlone();
        wrongBytesOfALongText();
        faultIsOfTheLatestBook();
        theTapeIsUsedUp();
        aNewBookTakesTheOldOnesPlace();
        noLineOfAnOlderBookCounts();
        theFourteenthLineCounts();
        Checks.finish();
    }

    private static void due(String what, Object got, Object want) {
        Checks.due(what, got, want);
    }

    /** Reads a text by a new object: how many lines, or -1 - the first wrong byte. */
    private static int read(String text) {
        LandUses x = new LandUses();
        Checks.write(x, text);
        Object got = Checks.answer(x::book);
        int fault = x.fault();
        if (got.equals("throws.IllegalArgumentException")) {
            due("a wrong text has a wrong byte: '" + text + "'", fault >= 0 && fault <= text.length(), true);
            due("no book by a wrong text", x.count(6), 0);
            return -1 - fault;
        }
        due("a right text has no wrong byte: '" + text + "'", fault, -1);
        due("lines of '" + text + "'", x.count(6), got);
        return (Integer) got;
    }

    private static void right(String text, int lines) {
        due("'" + text + "'", read(text), lines);
    }

    private static void wrong(String text, int place) {
        due("'" + text + "'", read(text), -1 - place);
    }

    private static String times(String line, int n) {
        StringBuilder text = new StringBuilder();
        for (int i = 0; i < n; i++) {
            text.append(i > 0 ? ";" : "").append(line);
        }
        return text.toString();
    }

    private static void atMostFourteenLines() {
        String[] forms = {"wild 1 on 1", "law wild joined", "works 1 near wild 1", "law woods most 9", "wild 2 on 3"};
        for (String form : forms) {
            for (int n = 1; n <= 16; n++) {
                String text = times(form, n);
                if (n <= 14) {
                    right(text, n);
                } else {
                    wrong(text, 14 * (form.length() + 1));
                }
            }
        }
        right(times("law wild apart woods 1", 14), 14);
    }

    private static void aFifteenthLine() {
        String fourteen = times("wild 1 on 1", 14);
        wrong(fourteen + ";", 168);
        wrong(fourteen + ";    ", 172);
        wrong(fourteen + "   ;    ", 175);
        wrong(fourteen + "   ;    wild", 175);
        wrong(fourteen + ";law", 168);
        wrong(fourteen + "; nothing of the kind", 169);
        wrong(fourteen + ";;", 168);
        wrong(fourteen + "; 7", 169);
        wrong(fourteen + " wild", 168);
        wrong(fourteen + " 1;wild 1 on 1", 168);
        right(fourteen + "    ", 14);
        wrong(times("wild 1 on 1", 13) + ";", 156);
        wrong(times("wild 1 on 1", 13) + ";wild 1 on;wild 1 on 1", 165);
        // a fault ahead of the 15th line is the first one
        wrong("x" + fourteen + ";wild 1 on 1", 0);
        wrong(times("wild 1 on 1", 13) + ";wild 1 on 10;wild 1 on 1", 166);
    }

    private static boolean fits(String thing, String[] places) {
        for (String place : places) {
            if (place.equals("U") && List.of(USES).contains(thing) || place.equals(thing)) {
                return true;
            }
            int dash = place.indexOf('-');
            if (dash > 0 && thing.length() <= 2 && Character.isDigit(thing.charAt(0))) {
                int n = Integer.parseInt(thing);
                if (n >= Integer.parseInt(place.substring(0, dash)) && n <= Integer.parseInt(place.substring(dash + 1))) {
                    return true;
                }
            }
        }
        return false;
    }

    /** All words, all numbers of one and two digits, some of more, and signs. */
    private static List<String> things() {
        List<String> things = new ArrayList<>(List.of(WORDS));
        things.addAll(List.of(SIGNS));
        for (int n = 0; n < 100; n++) {
            things.add("" + n);
        }
        for (int n = 0; n < 10; n++) {
            things.add("0" + n);
        }
        things.addAll(List.of("000", "001", "005", "010", "100", "101", "999", "0000", "1000", "4294967297", ";"));
        return things;
    }

    /** Behind each begin of a line each thing: right ones go on, of wrong ones the begin is wrong. */
    private static void eachThingInEachPlace() {
        List<String> things = things();
        for (String[] row : BEGINS) {
            String[] places = row[1].split(" ");
            for (String thing : things) {
                String text = row[0].isEmpty() ? thing : row[0] + " " + thing;
                int got = read(text);
                int begin = text.length() - thing.length();
                if (!fits(thing, places)) {
                    due("'" + text + "'", got, -1 - begin);
                } else {
                    due("'" + text + "' is a line or needs more", got == 1 || got == -1 - text.length(), true);
                    due("'" + text + "' is a line", got == 1, isWhole(text));
                }
            }
        }
    }

    private static boolean isWhole(String text) {
        String form = text.replaceAll("[0-9]+", "7");
        for (String use : USES) {
            form = form.replaceAll("\\b" + use + "\\b", "U");
        }
        return List.of("U 7 near U 7", "U minus 7 near U 7", "U 7 on 7", "U minus 7 on 7", "law U apart U 7",
                "law U least 7", "law U most 7", "law U joined", "grow U to U when U near 7 7").contains(form);
    }

    private static void moreMustCome() {
        for (String[] row : BEGINS) {
            if (!row[0].isEmpty()) {
                wrong(row[0], row[0].length());
                wrong(row[0] + " ", row[0].length() + 1);
                wrong("   " + row[0] + "   ", row[0].length() + 6);
                wrong("law wild joined;" + row[0], row[0].length() + 16);
                wrong(row[0] + ";law wild joined", row[0].length());
            }
        }
        wrong("law wild joined;", 16);
        wrong("law wild joined ;  ", 19);
        wrong(";", 0);
        wrong("  ;  ", 2);
        wrong(";law wild joined", 0);
        wrong("law wild joined;;law wild joined", 16);
        wrong("law wild joined;  ;", 18);
    }

    private static void nothingBehindALineButASemicolon() {
        for (String line : LINES) {
            right(line, 1);
            right(line + " ", 1);
            right(line + " ;" + line, 2);
            for (String thing : things()) {
                String text = line + " " + thing;
                if (thing.equals(";")) {
                    wrong(text, text.length());
                } else {
                    wrong(text, line.length() + 1);
                    wrong(text + ";" + line, line.length() + 1);
                }
            }
        }
        wrong("law works joined,", 16);
        wrong("works 7 on 3works 7 on 3", 12);
        wrong("law works least 7law works joined", 17);
    }

    /** A number counts as what it shows, of one digit or two. */
    private static void numbersMeanWhatTheyShow() {
        for (int n = 0; n <= 99; n++) {
            for (String number : n < 10 ? new String[] {"" + n, "0" + n} : new String[] {"" + n}) {
                LandUses x = Checks.withBook("homes " + number + " on 0;homes minus " + number + " on 0;law homes least "
                        + number + ";law homes most " + number + ";homes " + number + " near woods 1");
                x.use(0, 2, 1);
                x.use(10, 10, 4);
                due("worth " + number, x.adds(0), 3 * n);
                due("minus " + number, x.adds(1), -3 * n);
                due("near " + number, x.adds(4), 2 * n);
                due("least and most " + number, x.broken(), n > 3 ? 2 : n < 3 ? 3 : -1);
            }
        }
        // more than there are: least is broken, most never is
        for (int n = 60; n <= 99; n++) {
            LandUses x = Checks.withBook("law homes most " + n + ";law homes least " + n);
            x.use(0, 59, 1);
            due("sixty homes, " + n, x.broken(), n == 60 ? -1 : 1);
        }
        numbersOfSteps();
    }

    private static void numbersOfSteps() {
        for (int n = 1; n <= 5; n++) {
            for (String number : new String[] {"" + n, "0" + n}) {
                LandUses x = Checks.withBook("homes 1 near woods " + number + ";law homes apart woods " + number
                        + ";grow farms to works when homes near " + number + " 01");
                x.use(0, 0, 1);
                x.use(n, n, 4);
                x.use(10 * n, 10 * n, 3);
                due("near as many steps", x.worth(), 1);
                due("apart as many steps", x.broken(), -1);
                x.use(n, n, 0);
                x.use(n + 1, n + 1, 4);
                due("not near by more steps", x.worth(), 0);
                x.use(n - 1, n - 1, 4);
                due("apart by fewer steps", x.broken(), n > 1 ? 1 : -1);
                x.use(0, 0, 1);
                x.years(1);
                due("growth by as many steps", x.look(10 * n, 0), 2);
            }
        }
        for (int n = 1; n <= 60; n++) {
            LandUses x = Checks.withBook("grow works to farms when homes near 5 " + n);
            x.use(0, 59, 1);
            x.use(25, 25, 2);
            x.years(1);
            due("growth by all 59 others", x.look(25, 0), n <= 59 ? 3 : 2);
        }
    }

    private static void usesMeanWhatTheyShow() {
        for (int use = 0; use < 5; use++) {
            for (int other = 0; other < 5; other++) {
                LandUses x = new LandUses();
                x.use(0, 59, 4 - use == other ? (use + 1) % 5 : 4 - use);
                Checks.bookOf(x, USES[use] + " 1 near " + USES[other] + " 1;" + USES[use] + " 1 on 0;law " + USES[use]
                        + " least 1;grow " + USES[use] + " to " + USES[other] + " when " + USES[use] + " near 1 1");
                x.use(0, 1, use);
                x.use(2, 2, other);
                due(USES[use] + " on", x.adds(1), x.count(use));
                due(USES[use] + " least", x.broken(), -1);
                x.years(1);
                due(USES[use] + " grown to " + USES[other], x.look(0, 0), other);
            }
        }
        LandUses x = Checks.withBook("homes 1 near woods 1;woods 10 near homes 1");
        Checks.draw(x, "hth");
        due("from the first use to the second", x.adds(0), 2);
        due("and the other way", x.adds(1), 20);
        Checks.bookOf(x, "grow homes to farms when woods near 1 1");
        x.years(1);
        due("the third use is looked for", x.count(3), 2);
        due("and stays", x.count(4), 1);
    }

    private static void wordsGoAsFarAsLetters() {
        right("works7near homes3", 1);
        right("works minus7near homes3;works7on3;law works least7;law works most7;law works apart homes3", 5);
        right("grow works to woods when wild near3 7", 1);
        wrong("worksminus 7 on 3", 0);
        wrong("works minusx7 on 3", 6);
        wrong("works 7 nearhomes 3", 8);
        wrong("works 7 onx 3", 8);
        wrong("lawworks joined", 0);
        wrong("law worksjoined", 4);
        wrong("law works joinedx", 10);
        wrong("law works joinedlaw works joined", 10);
        wrong("law works apartwoods 3", 10);
        wrong("growworks to woods when wild near 3 7", 0);
        wrong("grow works towoods when wild near 3 7", 11);
        wrong("wor ks 7 on 3", 0);
        wrong("works 7 o n 3", 8);
        wrong("works 1 2 on 3", 8);
        wrong("worksA7 on 3", 5);
        wrong("woRks 7 on 3", 0);
        wrong("works 7On 3", 7);
        wrong("law works most 7 7", 17);
        wrong("grow works to woods when wild near 37", 35);
        wrong("grow works to woods when wild near 3-7", 36);
    }

    /** Each byte between two things: a blank alone parts them. */
    private static void blanksAre32Alone() {
        for (int b = 0; b < 256; b++) {
            char c = (char) b;
            boolean letter = c >= 'a' && c <= 'z';
            boolean digit = c >= '0' && c <= '9';
            if (b == 32 || digit) {
                right("works" + c + "7 on 3", 1);
            } else {
                wrong("works" + c + "7 on 3", letter ? 0 : 5);
            }
            if (b == 32) {
                right(c + "works 7 on 3", 1);
                right("law works joined" + c, 1);
            } else {
                wrong(c + "works 7 on 3", 0);
                wrong("law works joined" + c, letter ? 10 : c == ';' ? 17 : 16);
            }
            if (b != 32) {
                wrong("" + c, 0);
            }
        }
    }

    private static void blanksMayBeBetweenAll() {
        for (String line : LINES) {
            right("     " + line.replace(" ", "   ") + "    ", 1);
            right(line + ";" + line, 2);
            right(line + " ; " + line, 2);
            right("  " + line + "   ;   " + line + "  ", 2);
        }
    }

    private static void emptyOrBlanksAlone() {
        for (int n : new int[] {0, 1, 2, 19, 20, 21, 399, 400}) {
            right(" ".repeat(n), 0);
        }
        wrong(" ".repeat(399) + ";", 399);
        wrong(" ".repeat(399) + (char) 0, 399);
        LandUses x = Checks.withBook("wild 1 on 0;law wild most 0");
        due("a book before", x.worth(), 60);
        due("no line", Checks.bookOf(x, "   "), 0);
        due("no worth", x.worth(), 0);
        due("no law", x.broken(), -1);
        due("no laws", x.count(7), 0);
        Checks.dueThrows("no line 0", () -> x.adds(0), IndexOutOfBoundsException.class);
    }

    private static void wrongBytesOfALongText() {
        String blanks = " ".repeat(388);
        right(blanks + "wild 10 on 0", 1);
        right("wild 10 on 0" + blanks, 1);
        wrong("wild 10 on  " + blanks, 400);
        wrong(blanks + "wild 10 on 0".replace("on 0", "on x"), 399);
        wrong(" ".repeat(396) + "wild", 400);
        wrong(" ".repeat(397) + "law", 400);
        wrong(" ".repeat(395) + "wilds", 395);
        wrong("x".repeat(400), 0);
        wrong("7".repeat(400), 0);
        wrong("wild " + "7".repeat(395), 5);
        wrong("wild on" + blanks, 5);
    }

    private static void faultIsOfTheLatestBook() {
        LandUses x = new LandUses();
        due("ahead of any", x.fault(), -1);
        Checks.write(x, "wild x");
        due("ahead of any, a text is there", x.fault(), -1);
        Checks.dueThrows("wrong", x::book, IllegalArgumentException.class);
        due("wrong", x.fault(), 5);
        due("asked again", x.fault(), 5);
        Checks.write(x, "law wild joined");
        x.use(0, 0, 1);
        x.years(1);
        due("no book() since", x.fault(), 5);
        due("right", x.book(), 1);
        due("none", x.fault(), -1);
        Checks.write(x, "x");
        Checks.dueThrows("wrong at 0", x::book, IllegalArgumentException.class);
        due("at 0", x.fault(), 0);
        Checks.write(x, "law x");
        Checks.dueThrows("wrong again", x::book, IllegalArgumentException.class);
        due("the latest one", x.fault(), 4);
        due("an empty tape", x.book(), 0);
        due("none by an empty one", x.fault(), -1);
    }

    private static void theTapeIsUsedUp() {
        LandUses x = new LandUses();
        Checks.write(x, "law wild joined");
        due("a right book", x.book(), 1);
        due("no byte is left", x.end(1), false);
        due("twenty come", x.feed(0x20202020, 0x20202020, 0x20202020, 0x20202020, 0x20202020), 20);
        due("blanks alone", x.book(), 0);
        Checks.write(x, "law wild joined;");
        Checks.dueThrows("a wrong book", x::book, IllegalArgumentException.class);
        due("no byte is left", x.end(1), false);
        due("0 bytes are", x.end(0), true);
        due("an empty book", x.book(), 0);
    }

    private static void aNewBookTakesTheOldOnesPlace() {
        LandUses x = Checks.withBook("wild 1 on 0;wild 2 on 0;law wild joined");
        due("three lines", x.worth(), 180);
        Checks.bookOf(x, "law wild most 3;wild 5 on 0");
        due("line 0 is a law now", x.adds(0), 0);
        due("it is broken", x.broken(), 0);
        due("laws", x.count(7), 1);
        due("line 1", x.adds(1), 300);
        // a wrong text after two books, of more and fewer lines, changes neither
        for (String text : new String[] {"homes 1 on 0;homes 1 on 0;x", "x", "grow wild to homes when wild near 1 1;",
            "law wild least 0;wild 7 on 0;wild 9 on 0 0"}) {
            Checks.write(x, text);
            Checks.dueThrows("wrong: " + text, x::book, IllegalArgumentException.class);
            due("lines stay", x.count(6), 2);
            due("laws stay", x.count(7), 1);
            due("line 0 stays", x.adds(0), 0);
            due("line 1 stays", x.adds(1), 300);
            due("law stays", x.broken(), 0);
        }
        Checks.bookOf(x, "wild 3 on 0");
        Checks.write(x, "homes 1 on 0;x");
        Checks.dueThrows("wrong after three", x::book, IllegalArgumentException.class);
        due("the third book stays", x.worth(), 180);
        due("its one line", x.count(6), 1);
    }

    /** Longer books ahead of a shorter one leave nothing behind. */
    private static void noLineOfAnOlderBookCounts() {
        String[] kinds = {"wild 5 on 0", "wild 5 near wild 1", "law wild most 0", "law wild least 61",
            "law wild apart wild 2", "grow wild to homes when wild near 1 1"};
        for (String kind : kinds) {
            for (int books = 1; books <= 3; books++) {
                LandUses x = new LandUses();
                x.free(0, true);
                for (int i = 0; i < books; i++) {
                    Checks.bookOf(x, times(kind, 3));
                }
                due("one line", Checks.bookOf(x, "law homes least 0"), 1);
                due("no worth after " + kind, x.worth(), 0);
                due("no law after " + kind, x.broken(), -1);
                due("one law after " + kind, x.count(7), 1);
                due("a best after " + kind, x.can(), true);
                due("its worth after " + kind, x.best(), 0);
                Checks.dueThrows("no line 1 after " + kind, () -> x.adds(1), IndexOutOfBoundsException.class);
                Checks.dueThrows("no cost 1 after " + kind, () -> x.cost(1), IndexOutOfBoundsException.class);
                x.years(1);
                due("no growth after " + kind, x.count(0), 60);
                due("no line", Checks.bookOf(x, ""), 0);
                x.years(1);
                due("no growth without lines", x.count(0), 60);
            }
        }
    }

    private static void theFourteenthLineCounts() {
        String thirteen = times("law woods least 0", 13);
        LandUses x = Checks.withBook(thirteen + ";wild 5 on 0");
        due("worth of line 13", x.worth(), 300);
        due("line 13 adds", x.adds(13), 300);
        Checks.bookOf(x, thirteen + ";law wild most 59");
        due("law of line 13", x.broken(), 13);
        due("no best by it", x.can(), false);
        x.free(0, true);
        due("a best by a free square", x.can(), true);
        Checks.bookOf(x, thirteen + ";law homes least 0");
        due("no growth by fourteen laws", x.years(20), 20);
        due("no growth", x.count(0), 60);
        Checks.bookOf(x, thirteen + ";grow wild to woods when wild near1 8");
        x.years(1);
        due("growth by line 13", x.count(4), 8 * 4);
    }
}
