import java.util.ArrayList;
import java.util.Arrays;
import java.util.HashMap;
import java.util.LinkedHashSet;
import java.util.List;
import java.util.Map;
import java.util.Set;
import java.util.TreeSet;
import java.util.regex.Matcher;
import java.util.regex.Pattern;

/**
 * The document told a second time, by objects, maps and regular expressions, to compare the program
 * with. Nothing here is taken over from the program.
 */
final class Model {
    private static final Pattern TEXT = Pattern.compile(
        "l(;[pdw][1-9](n[0-9]|[amt][0-7][0-7]|i[0-7][0-7][0-7]|[fr][0-7])){1,8}");
    private static final int LOOP = 101, WRONG = 102;

    /** As it was told. */
    private static final class Told {
        final char kind;
        final char sign;
        final int[] digits;

        Told(String cell) {
            kind = cell.charAt(0);
            sign = cell.charAt(2);
            digits = cell.substring(3).chars().map(code -> code - '0').toArray();
        }

        boolean isNumber() {
            return sign == 'n';
        }
    }

    /** What a CELL came to: a number, LOOP, WRONG, or a PAIR, which is a CELL. */
    private static final class Value {
        final int code;
        final Integer pair;

        Value(int code, Integer pair) {
            this.code = code;
            this.pair = pair;
        }

        boolean isNumber() {
            return code < 100;
        }
    }

    /** All that a DAY could change. */
    private static final class World {
        final Map<Integer, Value> awake = new HashMap<>();
        final Map<Integer, Integer> links = new HashMap<>();
        final List<Integer> prices = new ArrayList<>();
        int spent = 0;

        World copy() {
            World other = new World();
            other.awake.putAll(awake);
            other.links.putAll(links);
            other.prices.addAll(prices);
            other.spent = spent;
            return other;
        }

        World asleep() {
            World other = copy();
            other.awake.clear();
            other.links.clear();
            other.spent = 0;
            return other;
        }
    }

    private static final class NeverEnds extends RuntimeException {
        private static final long serialVersionUID = 1;
    }

    private List<Told> told = new ArrayList<>();
    private World world = new World();
    private final int[][] rows = new int[4][];
    private final int[] lanes = new int[4];
    private final List<int[]> readings = new ArrayList<>();
    private List<Integer> latestDone = new ArrayList<>();
    private int latestDeep = 0;
    private int latestCost = 0;
    private int trace = 0;
    private int fault = 0;

    /** One need() from outside: who is being WORKED, who was DONE. */
    private final class Work {
        final World in;
        final boolean keeps;
        final List<Told> as;
        final Set<Integer> open = new LinkedHashSet<>();
        final List<Integer> done = new ArrayList<>();
        int deep = 0;
        int cost = 0;

        Work(World in, boolean keeps, List<Told> as) {
            this.in = in;
            this.keeps = keeps;
            this.as = as;
        }

        Value need(int c) {
            if (in.awake.containsKey(c)) return in.awake.get(c);
            if (open.contains(c)) {
                if (!keeps) throw new NeverEnds();
                return new Value(LOOP, null);
            }
            open.add(c);
            deep = Math.max(deep, open.size());
            Value value = work(c);
            open.remove(c);
            if (!in.links.containsKey(c)) cost += costOf(as.get(c).kind, in.prices.get(c));
            done.add(c);
            if (keeps) in.awake.put(c, value);
            return value;
        }

        private Value work(int c) {
            if (in.links.containsKey(c)) return need(in.links.get(c));
            Told cell = as.get(c);
            int[] p = cell.digits;
            switch (cell.sign) {
                case 'n': return new Value(p[0], null);
                case 't': return new Value(100, c);
                case 'i': {
                    Value by = need(p[0]);
                    if (by.code > 100) return by;
                    if (!by.isNumber()) return new Value(WRONG, null);
                    return need(by.code == 0 ? p[2] : p[1]);
                }
                case 'f': case 'r': {
                    Value of = need(p[0]);
                    if (of.code > 100) return of;
                    if (of.isNumber()) return new Value(WRONG, null);
                    return need(as.get(of.pair).digits[cell.sign == 'f' ? 0 : 1]);
                }
                default: {
                    List<Integer> both = new ArrayList<>();
                    for (int part : p) {
                        Value value = need(part);
                        if (value.code > 100) return value;
                        if (!value.isNumber()) return new Value(WRONG, null);
                        both.add(value.code);
                    }
                    int a = both.get(0), b = both.get(1);
                    int sum = cell.sign == 'a' ? a + b : a * b;
                    while (sum >= 100) sum -= 100;
                    return new Value(sum, null);
                }
            }
        }
    }

    private static int costOf(char kind, int price) {
        return kind == 'p' ? price : kind == 'd' ? price + 1 : 2 * price;
    }

    private boolean unknown(int c) {
        return c < 0 || c >= told.size();
    }

    private int fell(int which) {
        fault = which;
        return -10 - which;
    }

    private int rowFault(int sheet, int lane, int i, long n) {
        if (rows[sheet] != null && lanes[sheet] != lane) return 2;
        if (rows[sheet] == null) return 1;
        if (n < 0) return 4;
        if (i < 0 || i > rows[sheet].length || i + n > rows[sheet].length) return 3;
        return 0;
    }

    int heap(int sheet, int lane, int i, int n) {
        fault = 0;
        if (sheet < 0 || sheet > 3) return -1;
        if (lane < 0 || lane > 2) return -2;
        int found = rowFault(sheet, lane, i, n);
        if (found != 0) return fell(found);
        StringBuilder text = new StringBuilder();
        for (int k = i; k < i + n; k++) {
            int code = rows[sheet][k];
            text.append(code >= 32 && code < 127 ? (char) code : '?');
        }
        int first = firstFault(text.toString());
        if (first >= 0) return -100 - first;
        List<Told> cells = new ArrayList<>();
        for (String cell : text.substring(2).split(";")) cells.add(new Told(cell));
        for (int c = 0; c < cells.size(); c++) {
            int many = cells.size();
            if (!cells.get(c).isNumber() && Arrays.stream(cells.get(c).digits).anyMatch(d -> d >= many)) return -200 - c;
        }
        told = cells;
        world = new World();
        for (String cell : text.substring(2).split(";")) world.prices.add(cell.charAt(1) - '0');
        readings.clear();
        latestDone = new ArrayList<>();
        latestDeep = 0;
        latestCost = 0;
        return told.size();
    }

    /** -1 if it is a TEXT. */
    static int firstFault(String text) {
        for (int k = 1; k <= text.length(); k++) {
            Matcher matcher = TEXT.matcher(text.substring(0, k));
            if (!matcher.matches() && !matcher.hitEnd()) return k - 1;
        }
        return TEXT.matcher(text).matches() ? -1 : text.length();
    }

    int ofCell(int c, int what) {
        if (unknown(c)) return -1;
        Told cell = told.get(c);
        Integer link = world.links.get(c);
        Value came = world.awake.get(c);
        if (what == 0) return "pdw".indexOf(cell.kind);
        if (what == 1) return world.prices.get(c);
        if (what == 2) return costOf(cell.kind, world.prices.get(c));
        if (what == 3) return link != null ? 7 : "namitfr".indexOf(cell.sign);
        if (what == 4) return came != null ? 1 : 0;
        if (what == 5) return came != null ? came.code : -9;
        if (what == 6) return link != null ? link : -9;
        if (what < 10 || what > 12) return -2;
        return what - 10 < cell.digits.length ? cell.digits[what - 10] : -9;
    }

    int price(int c, int v) {
        if (unknown(c)) return -1;
        if (v < 1 || v > 9) return -2;
        return world.prices.set(c, v);
    }

    int need(int c) {
        if (unknown(c)) return -1;
        Work work = new Work(world, true, told);
        Value value = work.need(c);
        world.spent += work.cost;
        latestDone = work.done;
        latestDeep = work.deep;
        latestCost = work.cost;
        return value.code;
    }

    int latest(int what) {
        if (what == 0) return latestDone.size();
        if (what == 1) return latestDeep;
        if (what == 2) return latestCost;
        if (what < 10 || what > 17) return -2;
        return what - 10 < latestDone.size() ? latestDone.get(what - 10) : -9;
    }

    int spent() {
        return world.spent;
    }

    int sleep() {
        int were = world.awake.size();
        world.awake.clear();
        world.links.clear();
        return were;
    }

    int shorten() {
        return shorten(world);
    }

    private int shorten(World in) {
        int made = 0;
        boolean again = true;
        while (again) {
            again = false;
            for (int c = 0; c < told.size() && !again; c++) {
                Told cell = told.get(c);
                if (cell.sign != 'f' && cell.sign != 'r') continue;
                if (in.links.containsKey(c) || in.awake.containsKey(c)) continue;
                Value of = in.awake.get(cell.digits[0]);
                if (of == null || of.pair == null) continue;
                in.links.put(c, told.get(of.pair).digits[cell.sign == 'f' ? 0 : 1]);
                made++;
                again = true;
            }
        }
        return made;
    }

    int held(int set) {
        return set < 0 || set > 255 ? -2 : held(world, set);
    }

    private int held(World in, int set) {
        Set<Integer> seen = new TreeSet<>();
        for (int c = 0; c < told.size(); c++) {
            if ((set & (1 << c)) != 0) follow(in, c, seen);
        }
        return seen.stream().mapToInt(c -> 1 << c).sum();
    }

    private void follow(World in, int c, Set<Integer> seen) {
        if (!seen.add(c)) return;
        Value came = in.awake.get(c);
        int[] next = {};
        if (came == null && in.links.containsKey(c)) next = new int[] {in.links.get(c)};
        else if (came == null && !told.get(c).isNumber()) next = told.get(c).digits;
        else if (came != null && came.pair != null) next = told.get(came.pair).digits;
        for (int other : next) follow(in, other, seen);
    }

    int plainly(int c) {
        if (unknown(c)) return -1;
        Work work = new Work(world.asleep(), false, told);
        try {
            work.need(c);
        } catch (NeverEnds e) {
            return -9;
        }
        return work.done.size() > 999 ? -9 : work.done.size();
    }

    int day(int sheet, int lane, int i, int n, int what) {
        fault = 0;
        if (sheet < 0 || sheet > 3) return -1;
        if (lane < 0 || lane > 2 || n < 0 || n > 20) return -2;
        if (what < 0 || what > 17 || (what > 4 && what < 10)) return -2;
        if (told.isEmpty()) return -3;
        int found = rowFault(sheet, lane, i, 2L * n);
        if (found != 0) return fell(found);
        for (int k = 0; k < n; k++) {
            int first = rows[sheet][i + 2 * k], second = rows[sheet][i + 2 * k + 1];
            boolean zero = second >= 0 && second <= 7 || second == 20 || second == 21;
            boolean priced = second >= 10 && second <= 17;
            if (!zero && !priced) return -2;
            if (zero && first != 0 || priced && (first < 1 || first > 9)) return -2;
        }
        World in = world.copy();
        int wrong = -9;
        for (int k = 0; k < n && wrong < 0; k++) {
            if (!act(in, rows[sheet][i + 2 * k], rows[sheet][i + 2 * k + 1])) wrong = k;
        }
        if (what == 1) return wrong;
        if (wrong >= 0) return -100 - wrong;
        if (what == 0) return in.spent;
        if (what == 2) return in.awake.size();
        if (what == 3) return in.links.size();
        if (what == 4) return held(in, 1 << (told.size() - 1));
        Value came = in.awake.get(what - 10);
        return came == null ? -9 : came.code;
    }

    private boolean act(World in, int first, int second) {
        if (second == 20) {
            shorten(in);
            return true;
        }
        if (second == 21) {
            in.awake.clear();
            in.links.clear();
            return true;
        }
        if (unknown(second % 10)) return false;
        if (second >= 10) {
            in.prices.set(second - 10, first);
            return true;
        }
        Work work = new Work(in, true, told);
        Value value = work.need(second);
        in.spent += work.cost;
        return value.code <= 100;
    }

    int reading(int cell, int c) {
        if (unknown(cell)) return -1;
        if (c < 0 || c > 200) return -2;
        if (readings.size() == 8) return -4;
        readings.add(new int[] {cell, c});
        return readings.size() - 1;
    }

    int back(int n) {
        if (n < 0 || n > readings.size()) return -2;
        for (int k = 0; k < n; k++) readings.remove(readings.size() - 1);
        return readings.size();
    }

    int kinds(int c) {
        if (unknown(c)) return -1;
        int set = 0;
        for (int kind = 0; kind < 3; kind++) {
            if (allSo(c, "pdw".charAt(kind), world.prices.get(c))) set += 1 << kind;
        }
        return set;
    }

    int prices(int c) {
        if (unknown(c)) return -1;
        int set = 0;
        for (int v = 1; v <= 9; v++) {
            if (allSo(c, told.get(c).kind, v)) set += 1 << v;
        }
        return set;
    }

    /** Who is WORKED does not hang on kinds and PRICES, so the sum is made afterwards. */
    private boolean allSo(int c, char kind, int price) {
        for (int[] reading : readings) {
            Work work = new Work(world.asleep(), true, told);
            work.need(reading[0]);
            int cost = 0;
            for (int d : work.done) {
                cost += d == c ? costOf(kind, price) : costOf(told.get(d).kind, world.prices.get(d));
            }
            if (cost != reading[1]) return false;
        }
        return true;
    }

    long odds(int c, int number, int v, int which) {
        if (unknown(c) || unknown(number) || !told.get(number).isNumber()) return Long.MIN_VALUE;
        if (v < 0 || v > 102 || which < 0 || which > 1) return Long.MIN_VALUE;
        int upper = 0;
        for (int is = 0; is < 10; is++) {
            List<Told> other = new ArrayList<>(told);
            other.set(number, new Told("p1n" + is));
            if (new Work(world.asleep(), true, other).need(c).code == v) upper++;
        }
        int lower = 10;
        for (int d : new int[] {2, 5}) {
            while (upper % d == 0 && lower % d == 0) {
                upper /= d;
                lower /= d;
            }
        }
        return which == 0 ? upper : lower;
    }

    int sheet(int k, int lane, int n) {
        fault = 0;
        if (k < 0 || k > 3) return -1;
        if (lane < 0 || lane > 2 || n > 60) return -2;
        if (n < 0) return fell(4);
        rows[k] = new int[n];
        lanes[k] = lane;
        return 1;
    }

    int lose(int k) {
        if (k < 0 || k > 3) return -1;
        int had = rows[k] == null ? 0 : 1;
        rows[k] = null;
        return had;
    }

    int put(int k, int i, int v) {
        fault = 0;
        if (k < 0 || k > 3) return -1;
        if (rows[k] == null) return fell(1);
        if (i < 0 || i >= rows[k].length) return fell(3);
        rows[k][i] = lanes[k] == 0 ? (byte) v : lanes[k] == 1 ? (short) v : v;
        return 1;
    }

    long cell(int k, int i, int lane) {
        fault = 0;
        if (k < 0 || k > 3 || lane < 0 || lane > 2) return Long.MIN_VALUE;
        if (rows[k] != null && lanes[k] != lane) fault = 2;
        else if (rows[k] == null) fault = 1;
        else if (i < 0 || i >= rows[k].length) fault = 3;
        return fault != 0 ? Long.MIN_VALUE : rows[k][i];
    }

    int copy(int k, int i, int other, int j, int n) {
        fault = 0;
        if (k < 0 || k > 3 || other < 0 || other > 3) return -1;
        if (rows[k] == null || rows[other] == null) return fell(1);
        if (lanes[k] != lanes[other]) return fell(2);
        if (i < 0 || j < 0 || n < 0) return fell(3);
        if ((long) i + n > rows[k].length || (long) j + n > rows[other].length) return fell(3);
        int[] as = rows[k].clone();
        for (int d = 0; d < n; d++) rows[other][j + d] = as[i + d];
        return n;
    }

    int tell(int c) {
        if (unknown(c)) return -1;
        int price = world.prices.get(c);
        char kind = told.get(c).kind;
        for (char body : (kind == 'p' ? "1" : kind == 'd' ? "21" : "3211").toCharArray()) leave(body - '0');
        return kind == 'p' ? price : kind == 'd' ? price + 100 : 2 * price + 100;
    }

    int point(int c) {
        if (unknown(c)) return -1;
        boolean own = told.get(c).kind == 'w';
        leave(own ? 5 : 4);
        return own ? 40 : c;
    }

    private void leave(int body) {
        trace = trace * 31 + body;
    }

    int as(int c, int kind) {
        fault = 0;
        if (unknown(c)) return -1;
        if (kind < 0 || kind > 2) return -2;
        return "pdw".indexOf(told.get(c).kind) < kind ? fell(2) : 1;
    }

    int trace() {
        return trace;
    }

    int fault() {
        return fault;
    }

    int many(int what) {
        switch (what) {
            case 0: return told.size();
            case 1: return world.awake.size();
            case 2: return world.links.size();
            case 3: return readings.size();
            default: return -2;
        }
    }
}
