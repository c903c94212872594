/** Promises 18 to 28: sheet, lose, put, cell, copy, tell, point, as, trace, fault, many. */
public final class SheetsTest {
    public static void main(String[] args) {
        sheet();
        lose();
        putAndCell();
        cellRefusals();
        copy();
        copyRefusals();
        telling();
        as();
        fault();
        many();
        Due.end();
    }

    private static void sheet() {
        NeedOnce x = new NeedOnce();
        for (int k = 0; k < 4; k++) {
            for (int lane = 0; lane < 3; lane++) {
                Due.is("18: sheet", x.sheet(k, lane, 60), 1);
                Due.is("18: new", x.cell(k, 59, lane), 0);
                Due.is("18: beyond", x.cell(k, 60, lane), NeedOnce.LOST);
                Due.is("20: put", x.put(k, 59, 9), 1);
            }
        }
        Due.is("18: shorter", x.sheet(0, 2, 1), 1);
        Due.is("18: shorter", x.put(0, 1, 9), -13);
        Due.is("18: longer, all anew", x.sheet(0, 2, 60), 1);
        Due.is("18: all anew", x.cell(0, 59, 2), 0);
        Due.is("18: empty", x.sheet(0, 0, 0), 1);
        Due.is("18: unknown", x.sheet(4, 9, 61), NeedOnce.UNKNOWN);
        Due.is("18: unknown", x.sheet(-1, 0, -1), NeedOnce.UNKNOWN);
        Due.is("18: lane", x.sheet(1, 3, -1), NeedOnce.OUTSIDE);
        Due.is("18: lane", x.sheet(1, -1, 1), NeedOnce.OUTSIDE);
        Due.is("18: n", x.sheet(1, 1, 61), NeedOnce.OUTSIDE);
        Due.is("18: no fault", x.fault(), 0);
        Due.is("18: size", x.sheet(1, 1, -1), -14);
        Due.is("18: size", x.fault(), 4);
        Due.is("18: nothing is changed", x.cell(1, 59, 2), 9);
    }

    private static void lose() {
        NeedOnce x = new NeedOnce();
        Due.is("19: nothing", x.lose(3), 0);
        x.sheet(3, 1, 0);
        Due.is("19: had", x.lose(3), 1);
        Due.is("19: nothing", x.lose(3), 0);
        Due.is("19: it is lost", x.put(3, 0, 0), -11);
        Due.is("19: unknown", x.lose(4), NeedOnce.UNKNOWN);
        Due.is("19: unknown", x.lose(-1), NeedOnce.UNKNOWN);
        Due.is("27: lose names no fault", x.fault(), 1);
    }

    private static void putAndCell() {
        int[] put = {0, 1, -1, 127, 128, -128, -129, 255, 256, 32767, 32768, -32769, 65535, 65536, 70001,
            Integer.MAX_VALUE, Integer.MIN_VALUE};
        NeedOnce x = new NeedOnce();
        for (int lane = 0; lane < 3; lane++) {
            Due.is("sheet", x.sheet(lane, lane, 20), 1);
            for (int i = 0; i < put.length; i++) {
                Due.is("20: put", x.put(lane, i, put[i]), 1);
                long want = lane == 0 ? (byte) put[i] : lane == 1 ? (short) put[i] : put[i];
                Due.is("21: cell", x.cell(lane, i, lane), want);
            }
        }
        Due.is("20: unknown", x.put(4, 0, 0), NeedOnce.UNKNOWN);
        Due.is("20: unknown", x.put(-1, 0, 0), NeedOnce.UNKNOWN);
        Due.is("20: no fault", x.fault(), 0);
        Due.is("20: null", x.put(3, -1, 0), -11);
        Due.is("20: null", x.fault(), 1);
        for (int i : new int[] {-1, 20, Integer.MIN_VALUE, Integer.MAX_VALUE}) {
            Due.is("20: index", x.put(0, i, 0), -13);
            Due.is("20: index", x.fault(), 3);
        }
        Due.is("20: put", x.put(0, 19, 0), 1);
        Due.is("20: no fault", x.fault(), 0);
    }

    private static void cellRefusals() {
        NeedOnce x = new NeedOnce();
        x.sheet(0, 1, 2);
        int[][] calls = {{4, 0, 1, 0}, {-1, 0, 1, 0}, {0, 0, 3, 0}, {0, 9, -1, 0}, {0, 9, 0, 2}, {0, 0, 2, 2},
            {1, 9, 0, 1}, {0, 2, 1, 3}, {0, -1, 1, 3}};
        for (int[] call : calls) {
            Due.is("21: lost", x.cell(call[0], call[1], call[2]), NeedOnce.LOST);
            Due.is("21: fault", x.fault(), call[3]);
        }
        Due.is("21: cell", x.cell(0, 1, 1), 0);
        Due.is("21: no fault", x.fault(), 0);
    }

    private static void copy() {
        NeedOnce x = new NeedOnce();
        Due.row(x, 0, 1, 1, 2, 3, 4, 5);
        Due.row(x, 1, 1, 6, 7, 8);
        Due.is("22: to another", x.copy(0, 3, 1, 0, 2), 2);
        row(x, 1, 4, 5, 8);
        Due.is("22: onward", x.copy(0, 0, 0, 1, 4), 4);
        row(x, 0, 1, 1, 2, 3, 4);
        Due.is("22: backward", x.copy(0, 1, 0, 0, 4), 4);
        row(x, 0, 1, 2, 3, 4, 4);
        Due.is("22: none", x.copy(0, 5, 1, 3, 0), 0);
        Due.is("22: none", x.copy(0, 0, 1, 0, 0), 0);
        row(x, 1, 4, 5, 8);
    }

    private static void row(NeedOnce x, int k, int... want) {
        for (int i = 0; i < want.length; i++) Due.is("22: cell", x.cell(k, i, 1), want[i]);
    }

    private static void copyRefusals() {
        NeedOnce x = new NeedOnce();
        Due.row(x, 0, 1, 1, 2, 3);
        Due.row(x, 1, 2, 1, 2, 3);
        Due.row(x, 2, 1, 1, 2);
        int[][] calls = {{4, 0, 0, 0, 0, -1}, {0, 0, 4, 0, 0, -1}, {3, 0, -1, 0, 0, -1},
            {3, -1, 0, 0, 9, -11}, {0, -1, 3, 0, 9, -11}, {3, 0, 3, 0, 0, -11}, {0, -1, 1, 9, 9, -12},
            {0, -1, 2, 0, 1, -13}, {0, 0, 2, -1, 1, -13}, {0, 0, 2, 0, -1, -13}, {0, 4, 2, 0, 0, -13},
            {0, 0, 2, 3, 0, -13}, {0, 0, 2, 0, 3, -13}, {0, 2, 2, 0, 2, -13}, {0, 1, 2, 1, Integer.MAX_VALUE, -13},
            {0, Integer.MAX_VALUE, 2, 0, 1, -13}, {0, 0, 2, 0, Integer.MIN_VALUE, -13}};
        for (int[] call : calls) {
            Due.is("22: copy", x.copy(call[0], call[1], call[2], call[3], call[4]), call[5]);
            Due.is("22: fault", x.fault(), call[5] == -1 ? 0 : -10 - call[5]);
        }
        row(x, 2, 1, 2);
    }

    private static void telling() {
        NeedOnce x = Due.with("l;p3n1;d2n5;w7n1");
        int trace = 0;
        Due.is("23: plain", x.tell(0), 3);
        Due.is("26: trace", x.trace(), trace = 31 * trace + 1);
        Due.is("23: dear", x.tell(1), 102);
        Due.is("26: trace", x.trace(), trace = 31 * (31 * trace + 2) + 1);
        Due.is("23: double", x.tell(2), 114);
        Due.is("26: trace", x.trace(), trace = 31 * (31 * (31 * (31 * trace + 3) + 2) + 1) + 1);
        x.price(2, 9);
        Due.is("23: by the price now", x.tell(2), 118);
        trace = 31 * (31 * (31 * (31 * trace + 3) + 2) + 1) + 1;
        Due.is("24: lent", x.point(0), 0);
        Due.is("26: trace", x.trace(), trace = 31 * trace + 4);
        Due.is("24: lent", x.point(1), 1);
        Due.is("26: trace", x.trace(), trace = 31 * trace + 4);
        Due.is("24: its own", x.point(2), 40);
        Due.is("26: trace", x.trace(), trace = 31 * trace + 5);
        for (int c : new int[] {-1, 3, 8}) {
            Due.is("23: unknown", x.tell(c), NeedOnce.UNKNOWN);
            Due.is("24: unknown", x.point(c), NeedOnce.UNKNOWN);
        }
        Due.is("26: unchanged", x.trace(), trace);
    }

    private static void as() {
        NeedOnce x = Due.with("l;p3n1;d2n5;w7n1");
        for (int c = 0; c < 3; c++) {
            for (int kind = 0; kind < 3; kind++) {
                Due.is("25: as", x.as(c, kind), kind <= c ? 1 : -12);
                Due.is("25: fault", x.fault(), kind <= c ? 0 : 2);
            }
        }
        Due.is("25: unknown", x.as(3, 3), NeedOnce.UNKNOWN);
        Due.is("25: unknown", x.as(-1, 0), NeedOnce.UNKNOWN);
        Due.is("25: outside", x.as(0, 3), NeedOnce.OUTSIDE);
        Due.is("25: outside", x.as(0, -1), NeedOnce.OUTSIDE);
        x.as(0, 1);
        Due.is("25: refused", x.as(9, 0), NeedOnce.UNKNOWN);
        Due.is("27: refused", x.fault(), 0);
    }

    /** Calls that name no FAULT leave it; those that do tell it anew. */
    private static void fault() {
        NeedOnce x = Due.with("l;p3n1;d2n5;w7n1");
        x.as(0, 2);
        x.ofCell(0, 0);
        x.price(9, 9);
        x.need(0);
        x.latest(99);
        x.spent();
        x.sleep();
        x.shorten();
        x.held(-1);
        x.plainly(9);
        x.reading(9, 9);
        x.back(9);
        x.kinds(9);
        x.prices(9);
        x.odds(9, 9, 9, 9);
        x.lose(9);
        x.tell(9);
        x.point(9);
        x.trace();
        x.many(9);
        Due.is("27: it is left", x.fault(), 2);
        Due.is("27: it is left", x.fault(), 2);
        String[] calls = {"heap", "day", "sheet", "put", "cell", "copy", "as"};
        for (String call : calls) {
            x.as(0, 2);
            Due.is("27: refused " + call, refused(x, call), call.equals("cell") ? NeedOnce.LOST : NeedOnce.UNKNOWN);
            Due.is("27: by " + call, x.fault(), 0);
        }
    }

    private static long refused(NeedOnce x, String call) {
        switch (call) {
            case "heap": return x.heap(9, 0, 0, 0);
            case "day": return x.day(9, 0, 0, 0, 0);
            case "sheet": return x.sheet(9, 0, 0);
            case "put": return x.put(9, 0, 0);
            case "cell": return x.cell(9, 0, 0);
            case "copy": return x.copy(9, 0, 0, 0, 0);
            default: return x.as(9, 0);
        }
    }

    private static void many() {
        NeedOnce x = Due.with("l;p3t12;p1n1;p1n2;p1f0;p1r0");
        x.need(0);
        x.need(1);
        x.shorten();
        x.reading(0, 0);
        int[] due = {5, 2, 2, 1};
        for (int what = 0; what < 4; what++) Due.is("28: many", x.many(what), due[what]);
        x.need(3);
        Due.is("28: awake links are links", x.many(2), 2);
        Due.is("28: awake", x.many(1), 3);
        for (int what : new int[] {-1, 4, Integer.MIN_VALUE, Integer.MAX_VALUE}) {
            Due.is("28: outside", x.many(what), NeedOnce.OUTSIDE);
        }
    }
}
