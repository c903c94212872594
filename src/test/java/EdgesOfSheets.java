/** Part 4 of the terms, and promises 18 to 28. */
final class EdgesOfSheets {
    private static final int[] WIDE = {0, 1, -1, 127, 128, -128, -129, 255, 256, -256, 32767, 32768, -32768, -32769,
        65535, 65536, Integer.MAX_VALUE, Integer.MIN_VALUE};

    private EdgesOfSheets() {
    }

    static void run() {
        Edge.part(4);
        rows();
        bodies();
        sheet();
        lose();
        put();
        cell();
        copy();
        copyFaults();
        tellAndPoint();
        as();
        traceAndFault();
        many();
    }

    private static void rows() {
        Edge.says("SHEETS 0 .. 3 have nothing (at first),");
        NeedOnce x = new NeedOnce();
        for (int k = 0; k < 4; k++) Edge.is("nothing", x.put(k, 0, 0), -11);
        for (int k = 0; k < 4; k++) Edge.is("a sheet", x.sheet(k, 0, 0), 1);
        for (int k : new int[] {-1, 4}) Edge.is("no sheet", x.sheet(k, 0, 0), -1);
        Edge.says("or a row of 0 .. 60 numbers (0 at first) of a LANE: 0 bytes, 1 shorts, 2 ints;");
        for (int lane = 0; lane < 3; lane++) {
            for (int n : new int[] {0, 1, 59, 60}) {
                x = new NeedOnce();
                Edge.is("sheet", x.sheet(1, lane, n), 1);
                for (int i = 0; i < n; i++) Edge.is("0 at first", x.cell(1, i, lane), 0);
                Edge.is("no more", x.cell(1, n, lane), NeedOnce.LOST);
                Edge.is("no more", x.fault(), 3);
            }
        }
        Edge.is("61", x.sheet(1, 0, 61), -2);
        x = new NeedOnce();
        x.sheet(1, 2, 60);
        for (int i = 0; i < 60; i++) x.put(1, i, i + 1);
        x.sheet(1, 2, 3);
        x.sheet(1, 2, 60);
        for (int i = 0; i < 60; i++) Edge.is("0 at first, again", x.cell(1, i, 2), 0);
        Edge.says("what comes to a cell of it is cut to its LANE.");
        x = new NeedOnce();
        for (int lane = 0; lane < 3; lane++) {
            x.sheet(lane, lane, 60);
            for (int i = 0; i < WIDE.length; i++) {
                Edge.is("put", x.put(lane, i, WIDE[i]), 1);
                long due = lane == 0 ? (byte) WIDE[i] : lane == 1 ? (short) WIDE[i] : WIDE[i];
                Edge.is(WIDE[i] + " in lane " + lane, x.cell(lane, i, lane), due);
            }
        }
    }

    private static int traceOf(int before, int... bodies) {
        int trace = before;
        for (int body : bodies) trace = 31 * trace + body;
        return trace;
    }

    private static void bodies() {
        Edge.says("TELLING of CELLS by bodies that leave their number in TRACE (an int that wraps, 0 at first, becomes 31 times it and the number) as they begin:");
        NeedOnce x = Due.with("l;p3n1;d2n5;w7n1");
        Edge.is("0 at first", x.trace(), 0);
        x.tell(0);
        Edge.is("31 times 0 and 1", x.trace(), 1);
        x.tell(0);
        Edge.is("31 times 1 and 1", x.trace(), 32);
        for (int k = 0; k < 4; k++) x.tell(0);
        Edge.is("six of them", x.trace(), 29583456);
        x.tell(0);
        Edge.is("it just holds seven", x.trace(), 917087137);
        x.tell(0);
        // 31 times 917087137 and 1 is 28429701248, which is 6 times 2 to the 32nd and 2659897472: below 0 as an int.
        Edge.is("it wraps", x.trace(), (int) 28429701248L);
        Edge.is("it wraps below 0", x.trace() < 0 ? 1 : 0, 1);
        Edge.says("PLAIN (1): PRICE.");
        body("p", 1, 1, 1);
        body("p", 9, 9, 1);
        Edge.says("DEAR (2): what PLAIN's gives, and 100.");
        body("d", 1, 101, 2, 1);
        body("d", 9, 109, 2, 1);
        Edge.says("DOUBLE (3): what DEAR's gives, and what PLAIN's gives (DEAR's left out).");
        body("w", 1, 102, 3, 2, 1, 1);
        body("w", 9, 118, 3, 2, 1, 1);
        Edge.says("POINTED at by a lent body (4): its number;");
        x = Due.with("l;p3n1;d2n5;w7n1;p1n1;p1n1;p1n1;p1n1;d1n1");
        int trace = 0;
        for (int c : new int[] {0, 1, 3, 7}) {
            Edge.is("its number", x.point(c), c);
            Edge.is("trace", x.trace(), trace = traceOf(trace, 4));
        }
        Edge.says("DOUBLE ones have their own (5): 40.");
        Edge.is("its own", x.point(2), 40);
        Edge.is("trace", x.trace(), traceOf(trace, 5));
    }

    private static void body(String kind, int price, int want, int... bodies) {
        NeedOnce x = Due.with("l;p5n1;" + kind + price + "n1");
        Edge.is("tell", x.tell(1), want);
        Edge.is("trace", x.trace(), traceOf(0, bodies));
        Edge.is("once more", x.tell(1), want);
        Edge.is("trace", x.trace(), traceOf(traceOf(0, bodies), bodies));
    }

    private static void sheet() {
        Edge.promise(18);
        Edge.says("A SHEET gets a new row: 1.");
        NeedOnce x = new NeedOnce();
        for (int k = 0; k < 4; k++) {
            for (int lane = 0; lane < 3; lane++) {
                Edge.is("sheet", x.sheet(k, lane, 60), 1);
                Edge.is("it is of that lane", x.cell(k, 59, lane), 0);
                Edge.is("and of no other", x.cell(k, 59, (lane + 1) % 3), NeedOnce.LOST);
                Edge.is("put", x.put(k, 59, 7), 1);
            }
        }
        Edge.is("the others stay", x.cell(3, 59, 2), 7);
        Edge.is("empty", x.sheet(0, 1, 0), 1);
        Edge.is("empty", x.put(0, 0, 0), -13);
        Edge.is("the others stay", x.cell(1, 59, 2), 7);
        Edge.is("anew", x.sheet(1, 2, 60), 1);
        Edge.is("anew", x.cell(1, 59, 2), 0);
        Edge.says("UNKNOWN;");
        for (int k : new int[] {-1, 4, Integer.MIN_VALUE, Integer.MAX_VALUE}) {
            Edge.refusedAndNoFault("sheet " + k, -1, y -> y.sheet(k, 0, 1));
        }
        Edge.says("OUTSIDE: lane, n above 60;");
        for (int lane : new int[] {-1, 3, Integer.MIN_VALUE, Integer.MAX_VALUE}) {
            Edge.refusedAndNoFault("lane " + lane, -2, y -> y.sheet(1, lane, 1));
            Edge.refusedAndNoFault("lane ahead of size " + lane, -2, y -> y.sheet(1, lane, -1));
        }
        for (int n : new int[] {61, Integer.MAX_VALUE}) Edge.refusedAndNoFault("n " + n, -2, y -> y.sheet(1, 0, n));
        Edge.says("SIZE.");
        for (int n : new int[] {-1, Integer.MIN_VALUE}) Edge.faults("n " + n, 4, y -> y.sheet(1, 0, n));
    }

    private static void lose() {
        Edge.promise(19);
        Edge.says("A SHEET has nothing: 1;");
        NeedOnce x = new NeedOnce();
        for (int k = 0; k < 4; k++) {
            x.sheet(k, k % 3, k == 0 ? 0 : 60);
            Edge.is("lose", x.lose(k), 1);
            Edge.is("it has nothing", x.put(k, 0, 0), -11);
        }
        Edge.says("0: it had nothing.");
        for (int k = 0; k < 4; k++) Edge.is("lost already", x.lose(k), 0);
        Edge.is("at first", new NeedOnce().lose(0), 0);
        x.sheet(2, 0, 1);
        Edge.is("a new row", x.lose(2), 1);
        Edge.is("and lost", x.lose(2), 0);
        Edge.looks("nothing is changed", 0, y -> y.lose(3));
        Edge.says("UNKNOWN.");
        for (int k : new int[] {-1, 4, Integer.MIN_VALUE, Integer.MAX_VALUE}) Edge.refused("sheet " + k, -1, y -> y.lose(k));
    }

    private static void put() {
        Edge.promise(20);
        Edge.says("Cell i of a SHEET becomes v: 1.");
        NeedOnce x = new NeedOnce();
        x.sheet(1, 2, 3);
        for (int i = 0; i < 3; i++) {
            Edge.is("put", x.put(1, i, 10 + i), 1);
            for (int k = 0; k < 3; k++) Edge.is("cell " + k, x.cell(1, k, 2), k <= i ? 10 + k : 0);
        }
        Edge.is("anew", x.put(1, 0, -5), 1);
        Edge.is("anew", x.cell(1, 0, 2), -5);
        Edge.says("UNKNOWN;");
        for (int k : new int[] {-1, 4, Integer.MIN_VALUE, Integer.MAX_VALUE}) {
            Edge.refusedAndNoFault("sheet " + k, -1, y -> y.put(k, 0, 1));
        }
        Edge.says("NULL;");
        for (int i : new int[] {-1, 0, 60}) Edge.faults("nothing at " + i, 1, y -> y.put(3, i, 1));
        Edge.says("INDEX.");
        for (int i : new int[] {-1, 5, 60, Integer.MIN_VALUE, Integer.MAX_VALUE}) {
            Edge.faults("at " + i, 3, y -> y.put(1, i, 1));
        }
        x.sheet(1, 2, 0);
        Edge.is("of an empty row", x.put(1, 0, 1), -13);
        x.sheet(1, 2, 60);
        Edge.is("the last of sixty", x.put(1, 59, 1), 1);
        Edge.is("beyond sixty", x.put(1, 60, 1), -13);
    }

    private static void cell() {
        Edge.promise(21);
        Edge.says("Cell i of what a SHEET has, taken as a row of a LANE.");
        NeedOnce x = new NeedOnce();
        for (int lane = 0; lane < 3; lane++) {
            Due.row(x, lane, lane, 5, -6, 7);
            Edge.is("the first", x.cell(lane, 0, lane), 5);
            Edge.is("below 0", x.cell(lane, 1, lane), -6);
            Edge.is("the last", x.cell(lane, 2, lane), 7);
            Edge.is("no fault", x.fault(), 0);
        }
        Edge.looksAndNoFault("nothing is changed", -128, y -> y.cell(1, 4, 0));
        Edge.says("LOST: UNKNOWN,");
        for (int k : new int[] {-1, 4, Integer.MIN_VALUE, Integer.MAX_VALUE}) {
            Edge.refusedAndNoFault("sheet " + k, NeedOnce.LOST, y -> y.cell(k, 0, 0));
        }
        Edge.says("OUTSIDE: lane;");
        for (int lane : new int[] {-1, 3, Integer.MIN_VALUE, Integer.MAX_VALUE}) {
            Edge.refusedAndNoFault("lane " + lane, NeedOnce.LOST, y -> y.cell(1, 0, lane));
            Edge.refusedAndNoFault("lane of nothing " + lane, NeedOnce.LOST, y -> y.cell(3, 0, lane));
        }
        Edge.says("FAULTS CAST (nothing is no CAST),");
        Edge.faultsAndLost("bytes as shorts", 2, y -> y.cell(1, 0, 1));
        Edge.faultsAndLost("bytes as ints", 2, y -> y.cell(1, 0, 2));
        Edge.faultsAndLost("shorts as bytes", 2, y -> y.cell(2, 0, 0));
        Edge.faultsAndLost("ints as shorts", 2, y -> y.cell(0, 0, 1));
        for (int lane = 0; lane < 3; lane++) {
            int of = lane;
            Edge.faultsAndLost("nothing", 1, y -> y.cell(3, 0, of));
        }
        Edge.says("NULL,");
        for (int i : new int[] {-1, 0, 60}) Edge.faultsAndLost("nothing at " + i, 1, y -> y.cell(3, i, 0));
        Edge.says("INDEX.");
        for (int i : new int[] {-1, 5, 60, Integer.MIN_VALUE, Integer.MAX_VALUE}) {
            Edge.faultsAndLost("at " + i, 3, y -> y.cell(1, i, 0));
        }
    }

    private static void row(NeedOnce x, int k, int... want) {
        for (int i = 0; i < want.length; i++) Edge.is("cell " + i + " of sheet " + k, x.cell(k, i, 1), want[i]);
        Edge.is("no more in sheet " + k, x.cell(k, want.length, 1), NeedOnce.LOST);
    }

    private static void copy() {
        Edge.promise(22);
        Edge.says("n cells of a SHEET from i on go to another one (perhaps the same) from j on, as they were: n.");
        NeedOnce x = new NeedOnce();
        Due.row(x, 0, 1, 1, 2, 3, 4, 5);
        Due.row(x, 1, 1, 6, 7, 8);
        Edge.is("some", x.copy(0, 3, 1, 0, 2), 2);
        row(x, 1, 4, 5, 8);
        row(x, 0, 1, 2, 3, 4, 5);
        Edge.is("one", x.copy(0, 0, 1, 2, 1), 1);
        row(x, 1, 4, 5, 1);
        Edge.is("onward in itself", x.copy(0, 0, 0, 1, 4), 4);
        row(x, 0, 1, 1, 2, 3, 4);
        Edge.is("backward in itself", x.copy(0, 1, 0, 0, 4), 4);
        row(x, 0, 1, 2, 3, 4, 4);
        Edge.is("a whole row", x.copy(1, 0, 0, 2, 3), 3);
        row(x, 0, 1, 2, 4, 5, 1);
        Edge.is("all onto itself", x.copy(0, 0, 0, 0, 5), 5);
        row(x, 0, 1, 2, 4, 5, 1);
        Edge.is("none", x.copy(0, 0, 1, 0, 0), 0);
        Edge.is("none at the ends", x.copy(0, 5, 1, 3, 0), 0);
        Edge.is("no fault", x.fault(), 0);
        row(x, 1, 4, 5, 1);
        for (int lane = 0; lane < 3; lane++) {
            x.sheet(2, lane, 60);
            x.sheet(3, lane, 60);
            x.put(2, 59, -1);
            Edge.is("sixty", x.copy(2, 0, 3, 0, 60), 60);
            Edge.is("the last", x.cell(3, 59, lane), -1);
        }
    }

    private static void copyFaults() {
        Edge.says("UNKNOWN;");
        for (int k : new int[] {-1, 4, Integer.MIN_VALUE, Integer.MAX_VALUE}) {
            Edge.refusedAndNoFault("from " + k, -1, x -> x.copy(k, 0, 1, 0, 1));
            Edge.refusedAndNoFault("to " + k, -1, x -> x.copy(1, 0, k, 0, 1));
        }
        Edge.says("FAULTS NULL (the first, the other),");
        Edge.faults("from nothing", 1, x -> x.copy(3, 0, 1, 0, 1));
        Edge.faults("to nothing", 1, x -> x.copy(1, 0, 3, 0, 1));
        Edge.faults("nothing to itself", 1, x -> x.copy(3, 0, 3, 0, 0));
        Edge.says("CAST (unlike LANES),");
        for (int k = 0; k < 3; k++) {
            for (int other = 0; other < 3; other++) {
                int from = k, to = other;
                if (k == other) Edge.looksAndNoFault("like lanes", 0, x -> x.copy(from, 0, to, 0, 0));
                else Edge.faults("unlike lanes", 2, x -> x.copy(from, 0, to, 0, 0));
            }
        }
        Edge.says("INDEX: i, j, n below 0 or beyond.");
        int[][] calls = {{-1, 0, 1}, {0, -1, 1}, {0, 0, -1}, {-1, 0, 0}, {0, -1, 0}, {6, 0, 0}, {0, 6, 0}, {5, 0, 1},
            {0, 5, 1}, {0, 0, 6}, {1, 0, 5}, {0, 1, 5}, {Integer.MIN_VALUE, 0, 1}, {0, Integer.MIN_VALUE, 1},
            {0, 0, Integer.MIN_VALUE}, {Integer.MAX_VALUE, 0, 1}, {0, Integer.MAX_VALUE, 1}, {0, 0, Integer.MAX_VALUE},
            {1, 1, Integer.MAX_VALUE}, {5, 5, Integer.MAX_VALUE}, {Integer.MAX_VALUE, Integer.MAX_VALUE, Integer.MAX_VALUE}};
        for (int[] call : calls) {
            Edge.faults(call[0] + " to " + call[1] + ", " + call[2], 3, x -> x.copy(1, call[0], 1, call[1], call[2]));
        }
        NeedOnce x = new NeedOnce();
        Due.row(x, 0, 1, 1, 2, 3);
        Due.row(x, 1, 1, 4, 5);
        Edge.is("as long as the shorter", x.copy(0, 0, 1, 0, 2), 2);
        Edge.is("too long for the other", x.copy(0, 0, 1, 0, 3), -13);
        Edge.is("too long for the first", x.copy(1, 0, 0, 0, 3), -13);
        Edge.is("from behind its end", x.copy(1, 3, 0, 0, 0), -13);
        Edge.is("to behind its end", x.copy(0, 0, 1, 3, 0), -13);
        row(x, 1, 1, 2);
    }

    private static void tellAndPoint() {
        Edge.promise(23);
        Edge.says("TELLING of a CELL.");
        NeedOnce x = Due.with("l;p3t00;d2a01;w7f0");
        Edge.is("plain", x.tell(0), 3);
        Edge.is("dear", x.tell(1), 102);
        Edge.is("double", x.tell(2), 114);
        x.price(2, 8);
        Edge.is("at its price now", x.tell(2), 116);
        Edge.is("trace", x.trace(), traceOf(0, 1, 2, 1, 3, 2, 1, 1, 3, 2, 1, 1));
        Edge.is("nothing is needed", x.many(1), 0);
        Edge.says("UNKNOWN.");
        for (int c : new int[] {-1, 5, 8, Integer.MIN_VALUE, Integer.MAX_VALUE}) Edge.refused("cell " + c, -1, y -> y.tell(c));
        Edge.promise(24);
        Edge.says("How it is POINTED at.");
        for (int c = 0; c < 3; c++) Edge.is("point", x.point(c), c == 2 ? 40 : c);
        Edge.says("UNKNOWN.");
        for (int c : new int[] {-1, 5, 8, Integer.MIN_VALUE, Integer.MAX_VALUE}) Edge.refused("cell " + c, -1, y -> y.point(c));
    }

    private static void as() {
        Edge.promise(25);
        Edge.says("A CELL, taken as one of a kind: 1.");
        NeedOnce x = Due.with("l;p3t00;d2a01;w7f0");
        for (int c = 0; c < 3; c++) {
            for (int kind = 0; kind <= c; kind++) Edge.is("as", x.as(c, kind), 1);
        }
        Edge.is("no fault", x.fault(), 0);
        Edge.looksAndNoFault("nothing is changed", 1, y -> y.as(2, 2));
        Edge.says("UNKNOWN;");
        for (int c : new int[] {-1, 5, 8, Integer.MIN_VALUE, Integer.MAX_VALUE}) {
            Edge.refusedAndNoFault("cell " + c, -1, y -> y.as(c, 0));
        }
        Edge.says("OUTSIDE;");
        for (int kind : new int[] {-1, 3, Integer.MIN_VALUE, Integer.MAX_VALUE}) {
            for (int c = 0; c < 3; c++) {
                int of = c;
                Edge.refusedAndNoFault("kind " + kind, -2, y -> y.as(of, kind));
            }
        }
        Edge.says("CAST: it is none.");
        Edge.faults("plain as dear", 2, y -> y.as(0, 1));
        Edge.faults("plain as double", 2, y -> y.as(0, 2));
        Edge.faults("dear as double", 2, y -> y.as(1, 2));
    }

    private static void traceAndFault() {
        Edge.promise(26);
        Edge.says("TRACE.");
        NeedOnce x = new NeedOnce();
        Edge.is("0 at first", x.trace(), 0);
        x.tell(0);
        x.point(0);
        Edge.is("by refusals nothing", x.trace(), 0);
        Due.heap(x, "l;p3n1;d2n5;w7n1");
        x.point(2);
        Edge.is("pointed", x.trace(), 5);
        x.tell(1);
        Edge.is("told", x.trace(), traceOf(0, 5, 2, 1));
        Edge.is("asked alone", x.trace(), traceOf(0, 5, 2, 1));
        Edge.promise(27);
        Edge.says("The FAULT of the latest call that names one:");
        x = Edge.used();
        for (Edge.Call call : new Edge.Call[] {y -> y.heap(3, 0, 0, 0), y -> y.day(3, 0, 0, 0, 0), y -> y.put(3, 0, 0),
            y -> y.cell(3, 0, 0), y -> y.copy(3, 0, 0, 0, 0)}) {
            x.as(0, 1);
            Edge.is("the one ahead", x.fault(), 2);
            call.on(x);
            Edge.is("null", x.fault(), 1);
            askWithoutFaults(x);
            Edge.is("still null", x.fault(), 1);
        }
        x.sheet(0, 0, -1);
        Edge.is("size", x.fault(), 4);
        Edge.says("0: it came to none, or was refused");
        x = Edge.used();
        for (Edge.Call call : new Edge.Call[] {y -> y.heap(0, 2, 0, 28), y -> y.heap(0, 2, 0, 1), y -> y.heap(0, 2, 0, 7),
            y -> y.day(1, 0, 0, 1, 0), y -> y.day(1, 0, 3, 1, 0), y -> y.put(1, 0, 0), y -> y.cell(1, 0, 0),
            y -> y.copy(1, 0, 1, 0, 5), y -> y.as(0, 0), y -> y.sheet(3, 0, 1), y -> y.heap(4, 0, 0, 0),
            y -> y.heap(0, 3, 0, 0), y -> y.day(4, 0, 0, 0, 0), y -> y.day(1, 0, 0, 21, 0), y -> y.put(4, 0, 0),
            y -> y.cell(4, 0, 0), y -> y.cell(0, 0, 3), y -> y.copy(0, 0, 4, 0, 0), y -> y.as(8, 0), y -> y.as(0, 3),
            y -> y.sheet(4, 0, 0), y -> y.sheet(0, 3, 0), y -> y.sheet(0, 0, 61)}) {
            x.as(0, 1);
            Edge.is("the one ahead", x.fault(), 2);
            call.on(x);
            Edge.is("none", x.fault(), 0);
        }
        NeedOnce none = new NeedOnce();
        none.put(0, 0, 0);
        Edge.is("without cells", none.day(0, 0, 0, 0, 0), -3);
        Edge.is("without cells", none.fault(), 0);
        Edge.says("(0 ahead of any).");
        Edge.is("ahead of any", new NeedOnce().fault(), 0);
        none = new NeedOnce();
        askWithoutFaults(none);
        Edge.is("ahead of any", none.fault(), 0);
    }

    /** Every call that names no FAULTS, answered or refused. */
    private static void askWithoutFaults(NeedOnce x) {
        for (int c : new int[] {0, 9}) {
            x.ofCell(c, 0);
            x.price(c, 5);
            x.need(c);
            x.latest(c);
            x.plainly(c);
            x.reading(c, 1);
            x.back(c);
            x.kinds(c);
            x.prices(c);
            x.odds(c, 1, 1, 1);
            x.tell(c);
            x.point(c);
            x.many(c);
            x.held(c);
        }
        x.held(-1);
        x.lose(3);
        x.lose(9);
        x.spent();
        x.sleep();
        x.shorten();
        x.trace();
        x.fault();
    }

    private static void many() {
        Edge.promise(28);
        Edge.says("How many: 0 CELLS,");
        String text = "l;p1n0;p1n0;p1n0;p1n0;p1n0;p1n0;p1n0;p1n0";
        for (int many = 1; many <= 8; many++) Edge.is("cells", Due.with(text.substring(0, 1 + 5 * many)).many(0), many);
        Edge.says("1 that are AWAKE,");
        NeedOnce x = Due.with("l;p1t12;p1n5;p1n6;p1f0;p1r0;p1a55;p1f1");
        for (int c = 0; c < 7; c++) {
            x.need(c);
            Edge.is("awake", x.many(1), c + 1);
        }
        x.sleep();
        Edge.is("asleep", x.many(1), 0);
        Edge.says("2 LINKS,");
        x.need(0);
        Edge.is("none yet", x.many(2), 0);
        x.shorten();
        Edge.is("two", x.many(2), 2);
        Edge.is("they sleep", x.many(1), 1);
        x.need(3);
        Edge.is("awake ones, too", x.many(2), 2);
        x.sleep();
        Edge.is("none asleep again", x.many(2), 0);
        NeedOnce ends = Due.with("l;p1f1;p1t22;p1n1;p1n1;p1n1;p1n1;p1n1;p1r1");
        ends.need(1);
        Edge.is("the first and the last cell", ends.shorten(), 2);
        Edge.is("the first and the last cell", ends.many(2), 2);
        Edge.says("3 READINGS");
        for (int k = 0; k < 9; k++) {
            Edge.is("readings", x.many(3), k);
            x.reading(0, 1);
        }
        Edge.is("eight at most", x.many(3), 8);
        x.back(8);
        Edge.is("none left", x.many(3), 0);
        Edge.says("(0 all without CELLS).");
        NeedOnce none = new NeedOnce();
        none.need(0);
        none.reading(0, 0);
        none.shorten();
        for (int what = 0; what < 4; what++) Edge.is("without cells", none.many(what), 0);
        Edge.says("OUTSIDE.");
        for (int what : new int[] {-1, 4, Integer.MIN_VALUE, Integer.MAX_VALUE}) {
            Edge.refused("what " + what, -2, y -> y.many(what));
            Edge.is("without cells", none.many(what), -2);
        }
    }
}
