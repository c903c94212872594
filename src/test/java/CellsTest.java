/** Promises 1 to 4: a new object, heap, ofCell, price. */
public final class CellsTest {
    public static void main(String[] args) {
        constants();
        newObject();
        textsThatAreTaken();
        firstFaults();
        looseTexts();
        heapRefusals();
        refusedTextChangesNothing();
        takenTextMakesAllAnew();
        ofCell();
        price();
        Due.end();
    }

    private static void constants() {
        int[] got = {NeedOnce.UNKNOWN, NeedOnce.OUTSIDE, NeedOnce.STATE, NeedOnce.FULL, NeedOnce.NONE};
        int[] due = {-1, -2, -3, -4, -9};
        for (int k = 0; k < due.length; k++) Due.is("constant", got[k], due[k]);
        Due.is("LOST", NeedOnce.LOST, Long.MIN_VALUE);
    }

    private static void newObject() {
        NeedOnce x = new NeedOnce();
        for (int what = 0; what < 4; what++) Due.is("1: many", x.many(what), 0);
        Due.is("1: need", x.need(0), NeedOnce.UNKNOWN);
        Due.is("1: ofCell", x.ofCell(0, 99), NeedOnce.UNKNOWN);
        Due.is("1: spent", x.spent(), 0);
        Due.is("1: trace", x.trace(), 0);
        Due.is("1: fault", x.fault(), 0);
        Due.is("1: held", x.held(255), 0);
        for (int k = 0; k < 4; k++) Due.is("1: lose", x.lose(k), 0);
        Due.is("1: latest", x.latest(17), NeedOnce.NONE);
    }

    private static void textsThatAreTaken() {
        Due.is("2: one", Due.heap(new NeedOnce(), "l;p1n0"), 1);
        Due.is("2: eight", Due.heap(new NeedOnce(), "l;p1n0;d9n9;w2a01;p3m77;d4i234;w5t01;p6f0;d7r7"), 8);
        Due.is("2: itself", Due.heap(new NeedOnce(), "l;p1a00"), 1);
        Due.is("2: longest", Due.heap(new NeedOnce(),
            "l;p1i000;p1i000;p1i000;p1i000;p1i000;p1i000;p1i000;p1i777"), 8);
        for (int lane = 0; lane < 3; lane++) {
            NeedOnce x = new NeedOnce();
            Due.row(x, 1, lane, Due.codes("xxl;p1n0;d2f0y"));
            Due.is("2: in the middle", x.heap(1, lane, 2, 11), 2);
        }
        NeedOnce cut = new NeedOnce();
        Due.row(cut, 1, 0, 'l' + 256, ';' - 256, 'p', '1' + 512, 'n', '0');
        Due.is("2: codes are cut to bytes", cut.heap(1, 0, 0, 6), 1);
    }

    private static void firstFaults() {
        fault("", 0);
        fault("x", 0);
        fault(";", 0);
        fault("l", 1);
        fault("ll", 1);
        fault("l;", 2);
        fault("l;x", 2);
        fault("l;p", 3);
        fault("l;p0", 3);
        fault("l;p:n0", 3);
        fault("l;p1", 4);
        fault("l;p1z", 4);
        fault("l;p11", 4);
        fault("l;p9n", 5);
        fault("l;p9nn", 5);
        fault("l;p9n:", 5);
        fault("l;p9n/", 5);
        fault("l;p9n9;", 7);
        fault("l;p9n99", 6);
        fault("l;p1a0", 6);
        fault("l;p1a8", 5);
        fault("l;p1a08", 6);
        fault("l;p1a000", 7);
        fault("l;p1m0;", 6);
        fault("l;p1i00", 7);
        fault("l;p1i008", 7);
        fault("l;p1i0000", 8);
        fault("l;p1t0", 6);
        fault("l;p1t000", 7);
        fault("l;p1f", 5);
        fault("l;p1f00", 6);
        fault("l;p1r8", 5);
        fault("l;p1r00", 6);
        fault("l;P1n0", 2);
        String eight = "l;p1n0;p1n0;p1n0;p1n0;p1n0;p1n0;p1n0;p1n0";
        fault(eight + ";", 41);
        fault(eight + ";p1n0", 41);
        fault(eight + "x", 41);
        fault("l;p1f7;", 7);
        NeedOnce x = new NeedOnce();
        Due.row(x, 0, 2, 'l' + 65536, ';');
        Due.is("2: ints are not cut", x.heap(0, 2, 0, 2), -100);
    }

    private static void fault(String text, int place) {
        NeedOnce x = new NeedOnce();
        Due.is("2: heap of " + text, Due.heap(x, text), -100 - place);
        Due.is("2: fault of " + text, x.fault(), 0);
        Due.is("2: many", x.many(0), 0);
    }

    private static void looseTexts() {
        Due.is("2: loose", Due.heap(new NeedOnce(), "l;p1f1"), -200);
        Due.is("2: loose", Due.heap(new NeedOnce(), "l;p1n9;p1f2"), -201);
        Due.is("2: the first loose", Due.heap(new NeedOnce(), "l;p1n9;p1a02;p1i117;p1f4"), -202);
        Due.is("2: loose by the third", Due.heap(new NeedOnce(), "l;p1i001"), -200);
        Due.is("2: a number is no part", Due.heap(new NeedOnce(), "l;p1n7"), 1);
        Due.is("2: a fault goes ahead", Due.heap(new NeedOnce(), "l;p1f7;p1f8"), -110);
    }

    private static void heapRefusals() {
        NeedOnce x = new NeedOnce();
        Due.row(x, 0, 1, Due.codes("l;p1n0"));
        Due.is("2: no such sheet", x.heap(-1, 9, 0, -1), NeedOnce.UNKNOWN);
        Due.is("2: no such sheet", x.heap(4, 9, 0, -1), NeedOnce.UNKNOWN);
        Due.is("2: lane", x.heap(0, 3, 0, -1), NeedOnce.OUTSIDE);
        Due.is("2: lane", x.heap(0, -1, 0, -1), NeedOnce.OUTSIDE);
        Due.is("2: cast", x.heap(0, 0, 0, -1), -12);
        Due.is("2: cast", x.fault(), 2);
        Due.is("2: nothing is no cast", x.heap(1, 0, 0, -1), -11);
        Due.is("2: null", x.fault(), 1);
        Due.is("2: size", x.heap(0, 1, 99, -1), -14);
        Due.is("2: size", x.fault(), 4);
        Due.is("2: index", x.heap(0, 1, -1, 1), -13);
        Due.is("2: index", x.heap(0, 1, 0, 7), -13);
        Due.is("2: index", x.heap(0, 1, 6, 1), -13);
        Due.is("2: index", x.heap(0, 1, 7, 0), -13);
        Due.is("2: index", x.heap(0, 1, -1, 0), -13);
        Due.is("2: index", x.heap(0, 1, 1, Integer.MAX_VALUE), -13);
        Due.is("2: index", x.fault(), 3);
        Due.is("2: none from the end on", x.heap(0, 1, 6, 0), -100);
        Due.is("2: no fault then", x.fault(), 0);
    }

    private static void refusedTextChangesNothing() {
        NeedOnce x = Due.with("l;p3t11;d2n5;p1f0");
        x.need(2);
        x.reading(1, 3);
        Due.is("2: fault", Due.heap(x, "l;w9n1;w9m"), -110);
        Due.is("2: loose", Due.heap(x, "l;w9n1;w9f7"), -201);
        Due.is("2: many", x.many(0), 3);
        Due.is("2: many", x.many(1), 3);
        Due.is("2: many", x.many(3), 1);
        Due.is("2: spent", x.spent(), 7);
        Due.is("2: latest", x.latest(0), 3);
        Due.is("2: kind", x.ofCell(0, 0), 0);
        Due.is("2: came to", x.ofCell(2, 5), 5);
    }

    private static void takenTextMakesAllAnew() {
        NeedOnce x = Due.with("l;p3t11;d2n5;p1f0;p1r0");
        x.need(2);
        x.shorten();
        x.reading(1, 3);
        x.tell(0);
        Due.is("2: taken", Due.heap(x, "l;w9n1;w9n2;p1n3;p4f0"), 4);
        for (int what = 1; what < 4; what++) Due.is("2: many", x.many(what), 0);
        Due.is("2: spent", x.spent(), 0);
        for (int what = 0; what < 3; what++) Due.is("2: latest", x.latest(what), 0);
        Due.is("2: latest", x.latest(10), NeedOnce.NONE);
        Due.is("2: link", x.ofCell(3, 6), NeedOnce.NONE);
        Due.is("2: trace stays", x.trace(), 1);
    }

    private static void ofCell() {
        NeedOnce x = Due.with("l;p3t12;d2n5;w7a11;p1f0;p4i134");
        int[][] due = {
            {0, 3, 3, 4, 1, 2, -9}, {1, 2, 3, 0, 5, -9, -9}, {2, 7, 14, 1, 1, 1, -9},
            {0, 1, 1, 5, 0, -9, -9}, {0, 4, 4, 3, 1, 3, 4}};
        for (int c = 0; c < due.length; c++) {
            for (int what = 0; what < 4; what++) Due.is("3: ofCell", x.ofCell(c, what), due[c][what]);
            for (int k = 0; k < 3; k++) Due.is("3: part", x.ofCell(c, 10 + k), due[c][4 + k]);
            Due.is("3: awake", x.ofCell(c, 4), 0);
            Due.is("3: came to", x.ofCell(c, 5), NeedOnce.NONE);
            Due.is("3: link", x.ofCell(c, 6), NeedOnce.NONE);
        }
        x.need(0);
        x.shorten();
        Due.is("3: awake", x.ofCell(0, 4), 1);
        Due.is("3: came to", x.ofCell(0, 5), 100);
        Due.is("3: form of a link", x.ofCell(3, 3), 7);
        Due.is("3: link to", x.ofCell(3, 6), 1);
        Due.is("3: cost of a link", x.ofCell(3, 2), 1);
        Due.is("3: part of a link as told", x.ofCell(3, 10), 0);
        for (int c : new int[] {-1, 5, 8, Integer.MIN_VALUE}) Due.is("3: unknown", x.ofCell(c, -1), NeedOnce.UNKNOWN);
        for (int what : new int[] {-1, 7, 9, 13, Integer.MAX_VALUE}) Due.is("3: what", x.ofCell(0, what), NeedOnce.OUTSIDE);
    }

    private static void price() {
        NeedOnce x = Due.with("l;p3n1;d2n5;w7n2");
        Due.is("4: price", x.price(2, 9), 7);
        Due.is("4: price", x.price(2, 1), 9);
        Due.is("4: price", x.ofCell(2, 1), 1);
        Due.is("4: cost", x.ofCell(2, 2), 2);
        x.need(1);
        Due.is("4: price", x.price(1, 9), 2);
        Due.is("4: what was spent stays", x.spent(), 3);
        Due.is("4: latest stays", x.latest(2), 3);
        Due.is("4: unknown", x.price(3, 0), NeedOnce.UNKNOWN);
        Due.is("4: unknown", x.price(-1, 5), NeedOnce.UNKNOWN);
        Due.is("4: outside", x.price(0, 0), NeedOnce.OUTSIDE);
        Due.is("4: outside", x.price(0, 10), NeedOnce.OUTSIDE);
        Due.is("4: unchanged", x.ofCell(0, 1), 3);
    }
}
