import java.util.Map;
import java.util.Random;
import java.util.TreeMap;

/** Random calls of the program and of the model, on the same random TEXTS, DAYS and SHEETS. */
public final class RandomRunsTest {
    /** No step makes as many as 90 calls, so that no object is called more than 512 times, which is all that is promised. */
    private static final int RUNS = 16000, CALLS = 420;
    private static final int[] EDGES = {-1, 0, 1, 7, 8, 9, 10, 17, 18, 20, 21, 22, 59, 60, 61, 100, 101, 102, 103,
        200, 201, 255, 256, Integer.MIN_VALUE, Integer.MAX_VALUE, -2};
    private static final String SIGNS = "namitfr", ALL_SIGNS = "l;pdwnamitfr0123456789x";

    private static final Map<String, Integer> seen = new TreeMap<>();
    private final Random random;
    private final NeedOnce x = new NeedOnce();
    private final Model y = new Model();
    private int cells = 0;
    private int calls = 0;

    private RandomRunsTest(int seed) {
        random = new Random(seed);
    }

    public static void main(String[] args) {
        for (int seed = 1; seed <= RUNS; seed++) {
            RandomRunsTest run = new RandomRunsTest(seed);
            while (run.calls < CALLS) run.step(seed);
        }
        String[] wanted = {"need 100", "need 101", "need 102", "plainly -9", "shorten 3", "heap -200s", "heap -100s",
            "day -100s", "latest 8", "ninth", "kinds 0", "kinds 1", "kinds 2", "kinds 4", "kinds 7"};
        for (String what : wanted) Due.is("how often random runs saw " + what + " is above 0", seen.containsKey(what) ? 1 : 0, 1);
        Due.end();
    }

    private static void saw(String what) {
        seen.merge(what, 1, Integer::sum);
    }

    private int below(int bound) {
        return random.nextInt(bound);
    }

    private int any(int usual) {
        int roll = below(40);
        if (roll == 0) return EDGES[below(EDGES.length)];
        if (roll == 1) return random.nextInt();
        return roll == 2 ? below(30) - 4 : below(usual);
    }

    private int someCell() {
        return any(Math.max(1, cells));
    }

    private void same(int seed, String call, long got, long want) {
        calls++;
        Due.is("seed " + seed + ": " + call, got, want);
    }

    private void step(int seed) {
        int roll = below(100);
        if (cells == 0 || roll < 3) newText(seed);
        else if (roll < 33) ofNeed(seed);
        else if (roll < 45) ofCells(seed);
        else if (roll < 60) aDay(seed);
        else if (roll < 80) ofCost(seed);
        else ofSheets(seed);
    }

    private String text() {
        StringBuilder text = new StringBuilder("l");
        int many = 1 + below(8);
        for (int c = 0; c < many; c++) {
            char sign = SIGNS.charAt(below(7));
            int digits = sign == 'i' ? 3 : "amt".indexOf(sign) >= 0 ? 2 : 1;
            text.append(';').append("pdw".charAt(below(3))).append(1 + below(9)).append(sign);
            for (int k = 0; k < digits; k++) {
                int bound = sign == 'n' ? 10 : below(30) == 0 ? 8 : many;
                // Mostly onward, so that not all of it loops.
                boolean onward = below(3) != 0 && c + 1 < many && bound == many;
                text.append(onward ? c + 1 + below(many - c - 1) : below(bound));
            }
        }
        if (below(4) == 0 && many == 8 && text.length() <= 54) {
            text.append(";p1n0");
            saw("ninth");
        }
        if (below(5) == 0) text.setCharAt(below(text.length()), ALL_SIGNS.charAt(below(ALL_SIGNS.length())));
        if (below(8) == 0) text.setLength(below(text.length()));
        if (below(8) == 0 && text.length() < 57) text.insert(below(text.length() + 1), ALL_SIGNS.charAt(below(ALL_SIGNS.length())));
        return text.toString();
    }

    private void newText(int seed) {
        String text = text();
        int lane = below(3), sheet = below(3), from = below(3);
        same(seed, "sheet", x.sheet(sheet, lane, text.length() + from), y.sheet(sheet, lane, text.length() + from));
        for (int k = 0; k < text.length(); k++) {
            same(seed, "put", x.put(sheet, from + k, text.charAt(k)), y.put(sheet, from + k, text.charAt(k)));
        }
        int got = x.heap(sheet, lane, from, text.length());
        same(seed, "heap of " + text, got, y.heap(sheet, lane, from, text.length()));
        if (got > 0) cells = got;
        else saw(got <= -200 ? "heap -200s" : "heap -100s");
    }

    private void ofNeed(int seed) {
        int c = someCell();
        switch (below(6)) {
            case 0: case 1: case 2: {
                int got = x.need(c);
                same(seed, "need " + c, got, y.need(c));
                saw("need " + got);
                for (int what = 0; what < 18; what++) same(seed, "latest " + what, x.latest(what), y.latest(what));
                saw("latest " + x.latest(0));
                break;
            }
            case 3: {
                int got = x.shorten();
                same(seed, "shorten", got, y.shorten());
                saw("shorten " + got);
                break;
            }
            case 4: {
                int set = any(256);
                same(seed, "held " + set, x.held(set), y.held(set));
                break;
            }
            default:
                if (below(2) == 0) same(seed, "sleep", x.sleep(), y.sleep());
                same(seed, "plainly " + c, x.plainly(c), y.plainly(c));
                saw("plainly " + x.plainly(c));
                break;
        }
        same(seed, "spent", x.spent(), y.spent());
    }

    private void ofCells(int seed) {
        int c = someCell();
        if (below(3) == 0) {
            int v = any(12) - 1;
            same(seed, "price " + c + " " + v, x.price(c, v), y.price(c, v));
        }
        for (int what = -1; what < 14; what++) same(seed, "ofCell " + c + " " + what, x.ofCell(c, what), y.ofCell(c, what));
        int many = any(5);
        same(seed, "many " + many, x.many(many), y.many(many));
        int latest = any(20);
        same(seed, "latest " + latest, x.latest(latest), y.latest(latest));
    }

    private void aDay(int seed) {
        int lane = below(3), n = below(6), length = 2 * n + below(2);
        same(seed, "sheet", x.sheet(3, lane, length), y.sheet(3, lane, length));
        for (int k = 0; k < n; k++) {
            int[] seconds = {someCell(), someCell(), 10 + someCell(), 20, 21, any(24)};
            int second = seconds[below(below(4) == 0 ? 6 : 5)];
            int first = below(40) == 0 ? any(12) : second >= 10 && second < 18 ? 1 + below(9) : 0;
            same(seed, "put", x.put(3, 2 * k, first), y.put(3, 2 * k, first));
            same(seed, "put", x.put(3, 2 * k + 1, second), y.put(3, 2 * k + 1, second));
        }
        for (int what = -1; what < 19; what++) {
            int got = x.day(3, lane, 0, n, what);
            same(seed, "day " + what, got, y.day(3, lane, 0, n, what));
            if (got <= -100) saw("day -100s");
        }
        int sheet = any(4), of = any(3), i = any(8), many = any(8), what = any(18);
        same(seed, "day", x.day(sheet, of, i, many, what), y.day(sheet, of, i, many, what));
        same(seed, "fault", x.fault(), y.fault());
    }

    private void ofCost(int seed) {
        int c = someCell();
        switch (below(5)) {
            case 0:
                aReading(seed);
                break;
            case 1: {
                int n = any(4);
                same(seed, "back " + n, x.back(n), y.back(n));
                break;
            }
            case 2: case 3:
                same(seed, "kinds " + c, x.kinds(c), y.kinds(c));
                same(seed, "prices " + c, x.prices(c), y.prices(c));
                saw("kinds " + x.kinds(c));
                break;
            default: {
                int number = someCell(), v = below(2) == 0 ? 100 + below(4) : any(103), which = any(2);
                same(seed, "odds", x.odds(c, number, v, which), y.odds(c, number, v, which));
                break;
            }
        }
        same(seed, "many 3", x.many(3), y.many(3));
    }

    /** Mostly with the COST that it has, so that sets have something in them. */
    private void aReading(int seed) {
        int of = someCell();
        same(seed, "sleep", x.sleep(), y.sleep());
        same(seed, "need " + of, x.need(of), y.need(of));
        int cost = below(4) == 0 ? any(60) : x.latest(2);
        same(seed, "reading " + of + " " + cost, x.reading(of, cost), y.reading(of, cost));
    }

    private void ofSheets(int seed) {
        int k = any(4), other = any(4), i = any(60), j = any(60), n = any(12), lane = any(3), c = someCell();
        switch (below(9)) {
            case 0:
                same(seed, "sheet", x.sheet(k, lane, i), y.sheet(k, lane, i));
                break;
            case 1:
                same(seed, "lose", x.lose(k), y.lose(k));
                break;
            case 2:
                same(seed, "put", x.put(k, i, j * 1000003), y.put(k, i, j * 1000003));
                break;
            case 3:
                same(seed, "copy", x.copy(k, i, other, j, n), y.copy(k, i, other, j, n));
                break;
            case 4:
                same(seed, "tell", x.tell(c), y.tell(c));
                break;
            case 5:
                same(seed, "point", x.point(c), y.point(c));
                break;
            case 6:
                same(seed, "as", x.as(c, lane), y.as(c, lane));
                break;
            case 7: {
                int got = x.heap(k, lane, i, n);
                same(seed, "heap", got, y.heap(k, lane, i, n));
                if (got > 0) cells = got;
                break;
            }
            default:
                same(seed, "cell", x.cell(k, i, lane), y.cell(k, i, lane));
                break;
        }
        same(seed, "fault", x.fault(), y.fault());
        same(seed, "trace", x.trace(), y.trace());
    }
}
