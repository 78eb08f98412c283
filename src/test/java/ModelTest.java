import java.util.Random;
import java.util.function.Supplier;

/** Long runs of calls, the same ones each time, on the class and on the plain land beside it. */
public final class ModelTest {
    private static final String[] USES = {"wild", "homes", "works", "farms", "woods"};
    private static final String[] THINGS = {"wild", "homes", "works", "farms", "woods", "law", "grow", "near", "on",
        "apart", "least", "most", "joined", "to", "when", "minus", ";", "0", "1", "5", "6", "9", "10", "60", "61",
        "99", "100", "007", " ", "-", "x", "Law"};

    /** An object is used for at most 512 calls, of which the last 240 look at all squares. */
    private static final int MOST_CALLS = 512 - 4 * 60;
    /** One step of a run may feed, end, read a book of 400 bytes and ask for its fault. */
    private static final int MOST_CALLS_OF_A_STEP = 20 + 3;

    private final Random random;
    private final int run;
    private int calls = 0;
    private LandUses real;
    private PlainLand plain;

    private ModelTest(int run) {
        this.run = run;
        random = new Random(run);
    }

    public static void main(String[] args) {
        int runs = args.length > 0 ? Integer.parseInt(args[0]) : 600;
        for (int run = 0; run < runs; run++) {
            new ModelTest(run).go();
        }
        Checks.finish();
    }

    private void go() {
        real = new LandUses();
        plain = new PlainLand();
        int most = 100 + random.nextInt(MOST_CALLS - 100);
        boolean lawful = random.nextBoolean();
        while (calls + MOST_CALLS_OF_A_STEP <= most) {
            call(lawful);
        }
        for (int square = 0; square < 60; square++) {
            for (int what = 0; what < 4; what++) {
                look(square, what);
            }
        }
    }

    private void both(String name, Supplier<Object> onReal, Supplier<Object> onPlain) {
        calls++;
        Checks.due("run " + run + ": " + name, Checks.answer(onReal), Checks.answer(onPlain));
    }

    /** A number of a span, now and then one just outside it or far away. */
    private int near(int from, int to) {
        int luck = random.nextInt(60);
        if (luck == 0) {
            return from - 1;
        }
        if (luck == 1) {
            return to + 1;
        }
        if (luck == 2) {
            return random.nextInt();
        }
        return from + random.nextInt(to - from + 1);
    }

    private void call(boolean lawful) {
        int luck = random.nextInt(100);
        if (luck < 14) {
            write(lawful);
        } else if (luck < 30) {
            use();
        } else if (luck < 38) {
            int from = near(0, 59);
            int to = near(0, 59);
            int soil = near(0, 9);
            both("soil", () -> { real.soil(from, to, soil); return 0; }, () -> plain.soil(from, to, soil));
        } else if (luck < 50) {
            int square = near(0, 59);
            boolean is = random.nextInt(3) > 0;
            both("free", () -> real.free(square, is), () -> plain.free(square, is));
        } else if (luck < 54) {
            int square = near(0, 59);
            both("gate", () -> { real.gate(square); return 0; }, () -> plain.gate(square));
        } else if (luck < 58) {
            int n = near(0, random.nextInt(4) > 0 ? 3 : 20);
            both("years", () -> real.years(n), () -> plain.years(n));
        } else {
            ask(luck);
        }
    }

    private void ask(int luck) {
        int line = near(0, 13);
        int square = near(0, 59);
        int plan = near(-1, 5);
        int other = near(-1, 5);
        int what = near(0, 9);
        if (luck < 64) {
            both("worth", real::worth, plain::worth);
        } else if (luck < 68) {
            both("adds", () -> real.adds(line), () -> plain.adds(line));
        } else if (luck < 73) {
            both("broken", real::broken, plain::broken);
        } else if (luck < 75) {
            both("can", real::can, plain::can);
        } else if (luck < 77) {
            both("best", real::best, plain::best);
        } else if (luck < 80) {
            both("given", () -> real.given(square), () -> plain.given(square));
        } else if (luck < 81) {
            both("take", real::take, plain::take);
        } else if (luck < 84) {
            both("cost", () -> real.cost(line), () -> plain.cost(line));
        } else if (luck < 86) {
            both("keep", real::keep, plain::keep);
        } else if (luck < 89) {
            both("unlike", () -> real.unlike(plan, other), () -> plain.unlike(plan, other));
        } else if (luck < 91) {
            both("back", () -> real.back(plan), () -> plain.back(plan));
        } else if (luck < 95) {
            both("far", real::far, plain::far);
        } else if (luck < 98) {
            both("count", () -> real.count(what), () -> plain.count(what));
        } else {
            look(square, near(0, 3));
        }
    }

    private void look(int square, int what) {
        both("look(" + square + ", " + what + ")", () -> real.look(square, what), () -> plain.look(square, what));
    }

    private void use() {
        int from = near(0, 59);
        int to = random.nextInt(3) > 0 ? from : near(0, 59);
        int use = near(0, 4);
        both("use", () -> real.use(from, to, use), () -> plain.use(from, to, use));
    }

    /** Feeds a text, cuts it to its length, and mostly reads it. */
    private void write(boolean lawful) {
        String text = text(lawful);
        for (int i = 0; i < text.length(); i += 20) {
            int[] five = new int[5];
            for (int j = 0; j < 20; j++) {
                five[j / 4] = five[j / 4] << 8 | (i + j < text.length() ? text.charAt(i + j) : 0);
            }
            both("feed", () -> real.feed(five[0], five[1], five[2], five[3], five[4]), () -> plain.feed(five));
        }
        int n = random.nextInt(30) > 0 ? text.length() : near(0, 400);
        both("end", () -> real.end(n), () -> plain.end(n));
        if (random.nextInt(20) > 0) {
            both("book of '" + text + "'", real::book, plain::book);
        }
        both("fault of '" + text + "'", real::fault, plain::fault);
    }

    private String text(boolean lawful) {
        StringBuilder text = new StringBuilder();
        int lines = random.nextInt(12) == 0 ? 13 + random.nextInt(3) : random.nextInt(7);
        boolean small = lines > 10;
        for (int i = 0; i < lines; i++) {
            text.append(i > 0 ? ";" : "").append(blanks(small)).append(line(lawful, small)).append(blanks(small));
        }
        if (random.nextInt(4) == 0) {
            spoil(text);
        }
        text.setLength(Math.min(400, text.length()));
        return text.toString();
    }

    private String blanks(boolean small) {
        return small || random.nextInt(8) > 0 ? "" : "  ".substring(random.nextInt(3));
    }

    private String anyUse() {
        return USES[random.nextInt(5)];
    }

    private String line(boolean lawful, boolean small) {
        int steps = 1 + random.nextInt(5);
        switch (random.nextInt(small ? 6 : lawful ? 9 : 7)) {
            case 0: case 1: return anyUse() + " " + random.nextInt(100) + " near " + anyUse() + " " + steps;
            case 2: return anyUse() + " minus " + random.nextInt(100) + "near " + anyUse() + " 0" + steps;
            case 3: return anyUse() + (random.nextBoolean() ? " minus" : " ") + random.nextInt(30) + " on "
                    + random.nextInt(10);
            case 4: return "law " + anyUse() + " joined";
            case 5: return random.nextBoolean() ? "law " + anyUse() + " least " + random.nextInt(4)
                    : "law " + anyUse() + " most " + random.nextInt(61);
            case 6: return "grow " + anyUse() + " to " + anyUse() + " when " + anyUse() + " near " + steps + " "
                    + (1 + random.nextInt(random.nextBoolean() ? 4 : 60));
            default: return "law " + anyUse() + " apart " + anyUse() + " " + (1 + random.nextInt(3));
        }
    }

    /** Cuts, doubles or changes a part of a text. */
    private void spoil(StringBuilder text) {
        int at = random.nextInt(text.length() + 1);
        switch (random.nextInt(4)) {
            case 0:
                text.setLength(at);
                break;
            case 1:
                text.insert(at, THINGS[random.nextInt(THINGS.length)]);
                break;
            case 2:
                text.insert(at, " " + THINGS[random.nextInt(THINGS.length)] + " ");
                break;
            default:
                if (at < text.length()) {
                    text.setCharAt(at, (char) random.nextInt(256));
                }
        }
    }
}
