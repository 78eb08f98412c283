import java.util.ArrayList;
import java.util.Arrays;
import java.util.List;
import java.util.NoSuchElementException;

/** The document once more, with no thought of speed: each square is looked at by itself. */
final class PlainLand {
    private static final String USE_NAMES = "wild homes works farms woods";
    /** Things of a line: U a use, 'a-b' a number of these bounds, else the word itself. */
    private static final String[] FORMS = {
        "U 0-99 near U 1-5", "U minus 0-99 near U 1-5", "U 0-99 on 0-9", "U minus 0-99 on 0-9",
        "law U apart U 1-5", "law U least 0-99", "law U most 0-99", "law U joined",
        "grow U to U when U near 1-5 1-60"
    };

    private int[] uses = new int[60];
    private final int[] soils = new int[60];
    private final boolean[] isFree = new boolean[60];
    private final StringBuilder tape = new StringBuilder();
    private final List<int[]> plans = new ArrayList<>();
    private List<List<String>> lines = new ArrayList<>();
    private int gate = 0;
    private int year = 0;
    private int fault = -1;

    int feed(int... numbers) {
        if (tape.length() + 20 > 400) {
            return -1;
        }
        for (int number : numbers) {
            tape.append((char) (number >>> 24)).append((char) (number >>> 16 & 255));
            tape.append((char) (number >>> 8 & 255)).append((char) (number & 255));
        }
        return tape.length();
    }

    boolean end(int n) {
        if (n < 0 || n > tape.length()) {
            return false;
        }
        tape.setLength(n);
        return true;
    }

    private static void index(int i, int count) {
        if (i < 0 || i >= count) {
            throw new IndexOutOfBoundsException();
        }
    }

    private static boolean between(int n, int a, int b) {
        return Math.min(a, b) <= n && n <= Math.max(a, b);
    }

    private static boolean inRectangle(int square, int from, int to) {
        return between(square % 10, from % 10, to % 10) && between(square / 10, from / 10, to / 10);
    }

    private static int steps(int a, int b) {
        return Math.max(Math.abs(a % 10 - b % 10), Math.abs(a / 10 - b / 10));
    }

    private static boolean beside(int a, int b) {
        return Math.abs(a % 10 - b % 10) + Math.abs(a / 10 - b / 10) == 1;
    }

    int use(int from, int to, int use) {
        index(from, 60);
        index(to, 60);
        if (use < 0 || use > 4) {
            throw new IllegalArgumentException();
        }
        int changed = 0;
        for (int square = 0; square < 60; square++) {
            if (inRectangle(square, from, to)) {
                changed += uses[square] != use ? 1 : 0;
                uses[square] = use;
            }
        }
        return changed;
    }

    int soil(int from, int to, int soil) {
        index(from, 60);
        index(to, 60);
        if (soil < 0 || soil > 9) {
            throw new IllegalArgumentException();
        }
        for (int square = 0; square < 60; square++) {
            if (inRectangle(square, from, to)) {
                soils[square] = soil;
            }
        }
        return 0;
    }

    private int[] freeSquares() {
        int[] squares = new int[60];
        int n = 0;
        for (int square = 0; square < 60; square++) {
            if (isFree[square]) {
                squares[n++] = square;
            }
        }
        return Arrays.copyOf(squares, n);
    }

    boolean free(int square, boolean is) {
        index(square, 60);
        if (isFree[square] == is || is && freeSquares().length == 5) {
            return false;
        }
        isFree[square] = is;
        return true;
    }

    int gate(int square) {
        index(square, 60);
        gate = square;
        return 0;
    }

    int book() {
        String text = tape.toString();
        tape.setLength(0);
        List<List<String>> read = new ArrayList<>();
        fault = read(text, read);
        if (fault != -1) {
            throw new IllegalArgumentException();
        }
        lines = read;
        return lines.size();
    }

    private static boolean isLetter(char c) {
        return c >= 'a' && c <= 'z';
    }

    private static boolean isDigit(char c) {
        return c >= '0' && c <= '9';
    }

    private static int thingEnd(String text, int from) {
        int to = from + 1;
        while (to < text.length() && (isLetter(text.charAt(from)) && isLetter(text.charAt(to))
                || isDigit(text.charAt(from)) && isDigit(text.charAt(to)))) {
            to++;
        }
        return to;
    }

    private static boolean fits(String thing, String place) {
        if (place.equals("U")) {
            return thing.length() > 3 && List.of(USE_NAMES.split(" ")).contains(thing);
        }
        if (isDigit(place.charAt(0))) {
            String[] bounds = place.split("-");
            return isDigit(thing.charAt(0)) && thing.length() <= 2
                    && Integer.parseInt(thing) >= Integer.parseInt(bounds[0])
                    && Integer.parseInt(thing) <= Integer.parseInt(bounds[1]);
        }
        return thing.equals(place);
    }

    /** Whether a line's things so far are the begin of a form, or (if whole) a form. */
    private static boolean isForm(List<String> things, boolean whole) {
        for (String form : FORMS) {
            String[] places = form.split(" ");
            boolean fits = whole ? things.size() == places.length : things.size() <= places.length;
            for (int i = 0; fits && i < things.size(); i++) {
                fits = fits(things.get(i), places[i]);
            }
            if (fits) {
                return true;
            }
        }
        return false;
    }

    private static int read(String text, List<List<String>> read) {
        List<String> line = new ArrayList<>();
        boolean any = false;
        int at = 0;
        while (at < text.length()) {
            if (text.charAt(at) == ' ') {
                at++;
                continue;
            }
            any = true;
            int to = thingEnd(text, at);
            String thing = text.substring(at, to);
            if (thing.equals(";") && isForm(line, true)) {
                read.add(line);
                line = new ArrayList<>();
            } else {
                line.add(thing);
                if (!isForm(line, false) || read.size() == 14) {
                    return at;
                }
            }
            at = to;
        }
        if (any) {
            if (!isForm(line, true)) {
                return text.length();
            }
            read.add(line);
        }
        return -1;
    }

    int fault() {
        return fault;
    }

    private static int useOf(String name) {
        return List.of(USE_NAMES.split(" ")).indexOf(name);
    }

    private static boolean isLaw(List<String> line) {
        return line.get(0).equals("law");
    }

    private int addsOf(List<String> line, int[] land) {
        if (isLaw(line) || line.get(0).equals("grow")) {
            return 0;
        }
        boolean minus = line.get(1).equals("minus");
        List<String> rest = line.subList(minus ? 2 : 1, line.size());
        int each = Integer.parseInt(rest.get(0)) * (minus ? -1 : 1);
        int use = useOf(line.get(0));
        int times = 0;
        for (int a = 0; a < 60; a++) {
            if (land[a] != use) {
                continue;
            }
            if (rest.get(1).equals("on")) {
                times += soils[a] >= Integer.parseInt(rest.get(2)) ? 1 : 0;
            } else {
                times += near(land, a, useOf(rest.get(2)), Integer.parseInt(rest.get(3)));
            }
        }
        return times * each;
    }

    private static int near(int[] land, int square, int use, int most) {
        int n = 0;
        for (int other = 0; other < 60; other++) {
            n += other != square && land[other] == use && steps(square, other) <= most ? 1 : 0;
        }
        return n;
    }

    private int worthOf(int[] land) {
        int sum = 0;
        for (List<String> line : lines) {
            sum += addsOf(line, land);
        }
        return sum;
    }

    int worth() {
        return worthOf(uses);
    }

    int adds(int line) {
        index(line, lines.size());
        return addsOf(lines.get(line), uses);
    }

    private static int squaresOf(int[] land, int use) {
        int n = 0;
        for (int of : land) {
            n += of == use ? 1 : 0;
        }
        return n;
    }

    private static boolean holds(List<String> law, int[] land) {
        int use = useOf(law.get(1));
        switch (law.get(2)) {
            case "least":
                return squaresOf(land, use) >= Integer.parseInt(law.get(3));
            case "most":
                return squaresOf(land, use) <= Integer.parseInt(law.get(3));
            case "joined":
                return joined(land, use);
            default:
                return apart(land, use, useOf(law.get(3)), Integer.parseInt(law.get(4)));
        }
    }

    private static boolean apart(int[] land, int one, int other, int least) {
        for (int a = 0; a < 60; a++) {
            for (int b = 0; b < 60; b++) {
                if (a != b && land[a] == one && land[b] == other && steps(a, b) < least) {
                    return false;
                }
            }
        }
        return true;
    }

    /** Every square has a mark of its own; beside one another the lower mark wins. */
    private static boolean joined(int[] land, int use) {
        int[] mark = new int[60];
        for (int i = 0; i < 60; i++) {
            mark[i] = i;
        }
        for (boolean changed = true; changed;) {
            changed = false;
            for (int a = 0; a < 60; a++) {
                for (int b : new int[] {a - 10, a - 1, a + 1, a + 10}) {
                    if (b >= 0 && b < 60 && beside(a, b) && land[a] == use && land[b] == use && mark[b] < mark[a]) {
                        mark[a] = mark[b];
                        changed = true;
                    }
                }
            }
        }
        int only = -1;
        for (int a = 0; a < 60; a++) {
            if (land[a] == use) {
                if (only != -1 && mark[a] != only) {
                    return false;
                }
                only = mark[a];
            }
        }
        return true;
    }

    int broken() {
        for (int i = 0; i < lines.size(); i++) {
            if (isLaw(lines.get(i)) && !holds(lines.get(i), uses)) {
                return i;
            }
        }
        return -1;
    }

    int years(int n) {
        if (n < 0 || n > 20) {
            throw new IllegalArgumentException();
        }
        for (int i = 0; i < n && year < 1000; i++) {
            int[] next = uses.clone();
            for (int square = 0; square < 60; square++) {
                next[square] = grown(square);
            }
            uses = next;
            year++;
        }
        return year;
    }

    private int grown(int square) {
        for (List<String> line : lines) {
            if (line.get(0).equals("grow") && useOf(line.get(1)) == uses[square]
                    && near(uses, square, useOf(line.get(5)), Integer.parseInt(line.get(7)))
                        >= Integer.parseInt(line.get(8))) {
                return useOf(line.get(3));
            }
        }
        return uses[square];
    }

    /** The land with the best that there would be without a line; null if there is none. */
    private int[] bestWithout(int line) {
        int[] squares = freeSquares();
        int ways = 1 << 2 * squares.length;
        int[] best = null;
        int bestWorth = 0;
        for (int way = 0; way < ways; way++) {
            int[] land = uses.clone();
            for (int i = 0; i < squares.length; i++) {
                land[squares[i]] = 1 + (way >> 2 * (squares.length - 1 - i) & 3);
            }
            boolean hold = true;
            for (int i = 0; i < lines.size(); i++) {
                hold = hold && (i == line || !isLaw(lines.get(i)) || holds(lines.get(i), land));
            }
            if (hold && (best == null || worthOf(land) > bestWorth)) {
                best = land;
                bestWorth = worthOf(land);
            }
        }
        return best;
    }

    boolean can() {
        return bestWithout(-1) != null;
    }

    int best() {
        int[] best = bestWithout(-1);
        if (best == null) {
            throw new NoSuchElementException();
        }
        return worthOf(best);
    }

    int given(int square) {
        index(square, 60);
        int[] best = bestWithout(-1);
        return best == null ? -1 : best[square];
    }

    boolean take() {
        int[] best = bestWithout(-1);
        if (best == null) {
            return false;
        }
        uses = best;
        return true;
    }

    int cost(int line) {
        index(line, lines.size());
        int[] best = isLaw(lines.get(line)) ? bestWithout(-1) : null;
        if (best == null) {
            throw new NoSuchElementException();
        }
        return worthOf(bestWithout(line)) - worthOf(best);
    }

    int look(int square, int what) {
        index(square, 60);
        switch (what) {
            case 0: return uses[square];
            case 1: return soils[square];
            case 2: return isFree[square] ? 1 : 0;
            case 3: {
                int n = 0;
                for (int other = 0; other < 60; other++) {
                    n += beside(square, other) && uses[other] == uses[square] ? 1 : 0;
                }
                return n;
            }
            default: throw new NoSuchElementException();
        }
    }

    int keep() {
        if (plans.size() == 6) {
            return -1;
        }
        plans.add(uses.clone());
        return plans.size() - 1;
    }

    int unlike(int a, int b) {
        index(a + 1, plans.size() + 1);
        index(b + 1, plans.size() + 1);
        int[] one = a == -1 ? uses : plans.get(a);
        int[] other = b == -1 ? uses : plans.get(b);
        int n = 0;
        for (int square = 0; square < 60; square++) {
            n += one[square] != other[square] ? 1 : 0;
        }
        return n;
    }

    int back(int plan) {
        index(plan, plans.size());
        int n = unlike(plan, -1);
        uses = plans.get(plan).clone();
        return n;
    }

    int far() {
        int[] way = new int[60];
        Arrays.fill(way, 1000);
        way[gate] = 0;
        for (int round = 0; round < 60; round++) {
            for (int a = 0; a < 60; a++) {
                for (int b = 0; b < 60; b++) {
                    if (beside(a, b) && uses[b] != 4) {
                        way[b] = Math.min(way[b], way[a] + 1);
                    }
                }
            }
        }
        int far = 0;
        for (int a = 0; a < 60; a++) {
            far = uses[a] == 1 ? Math.max(far, way[a]) : far;
        }
        return far >= 1000 ? -1 : far;
    }

    int count(int what) {
        switch (what) {
            case 0: case 1: case 2: case 3: case 4: return squaresOf(uses, what);
            case 5: return freeSquares().length;
            case 6: return lines.size();
            case 7: return (int) lines.stream().filter(PlainLand::isLaw).count();
            case 8: return plans.size();
            case 9: return year;
            default: return -1;
        }
    }
}
