/** Promises 13 to 17: reading, back, kinds, prices, odds. */
public final class CostTest {
    public static void main(String[] args) {
        readings();
        kindsAndPrices();
        fromAsleep();
        pairWhereNumberIsWanted();
        odds();
        oddsRefusals();
        Due.end();
    }

    private static void readings() {
        NeedOnce x = new NeedOnce();
        Due.is("13: no cells", x.reading(0, 0), NeedOnce.UNKNOWN);
        Due.is("14: none", x.back(0), 0);
        Due.is("14: none", x.back(1), NeedOnce.OUTSIDE);
        x = Due.with("l;p3n1");
        Due.is("13: unknown", x.reading(1, 201), NeedOnce.UNKNOWN);
        Due.is("13: unknown", x.reading(-1, 0), NeedOnce.UNKNOWN);
        Due.is("13: outside", x.reading(0, -1), NeedOnce.OUTSIDE);
        Due.is("13: outside", x.reading(0, 201), NeedOnce.OUTSIDE);
        for (int k = 0; k < 8; k++) Due.is("13: number", x.reading(0, 200 * (k % 2)), k);
        Due.is("13: outside ahead of full", x.reading(0, 201), NeedOnce.OUTSIDE);
        Due.is("13: full", x.reading(0, 3), NeedOnce.FULL);
        Due.is("28: readings", x.many(3), 8);
        Due.is("14: outside", x.back(-1), NeedOnce.OUTSIDE);
        Due.is("14: outside", x.back(9), NeedOnce.OUTSIDE);
        Due.is("14: none taken", x.back(0), 8);
        Due.is("14: back", x.back(3), 5);
        Due.is("13: number", x.reading(0, 3), 5);
        Due.is("14: back", x.back(6), 0);
    }

    private static void kindsAndPrices() {
        NeedOnce x = Due.with("l;p1a12;p1n5;d1n6;w3n7");
        for (int c = 0; c < 4; c++) {
            Due.is("15: all", x.kinds(c), 7);
            Due.is("16: all", x.prices(c), 1022);
        }
        x.reading(1, 2);
        Due.is("15: dear or double", x.kinds(1), 6);
        Due.is("16: two", x.prices(1), 4);
        Due.is("15: none", x.kinds(2), 0);
        x.back(1);
        x.reading(0, 5);
        Due.is("15: of the sum", x.kinds(0), 6);
        Due.is("16: of the sum", x.prices(0), 4);
        Due.is("15: of a part", x.kinds(2), 0);
        Due.is("16: of a part", x.prices(2), 4);
        Due.is("15: of none in it", x.kinds(3), 0);
        x.reading(3, 6);
        Due.is("15: one is not so", x.kinds(3), 0);
        x.back(2);
        x.reading(3, 6);
        Due.is("15: alone", x.kinds(3), 4);
        x.price(3, 6);
        Due.is("15: by the price now", x.kinds(3), 1);
        Due.is("16: by the price now", x.prices(3), 8);
        Due.is("15: unknown", x.kinds(4), NeedOnce.UNKNOWN);
        Due.is("16: unknown", x.prices(-1), NeedOnce.UNKNOWN);
        Due.is("15: unchanged", x.ofCell(3, 0), 2);
        Due.is("16: unchanged", x.ofCell(3, 1), 6);
    }

    private static void fromAsleep() {
        NeedOnce x = Due.with("l;p3t12;d2n5;w7a11;p4f0");
        x.need(0);
        x.shorten();
        x.need(3);
        x.reading(3, 10);
        Due.is("15: as told", x.kinds(3), 1);
        Due.is("16: as told", x.prices(3), 16);
        Due.is("15: as told", x.kinds(2), 7);
        Due.is("15: nothing is changed", x.many(2), 1);
        Due.is("15: nothing is changed", x.many(1), 3);
        Due.is("15: nothing is changed", x.spent(), 6);
    }

    private static void pairWhereNumberIsWanted() {
        NeedOnce x = Due.with("l;p2a12;p3t00;p4n3");
        x.reading(0, 5);
        Due.is("15: what sleeps on costs nothing", x.kinds(2), 7);
        Due.is("16: what sleeps on costs nothing", x.prices(2), 1022);
        Due.is("15: of the pair", x.kinds(1), 1);
        Due.is("16: of the pair", x.prices(1), 8);
        // The second PART would loop, or not, by that NUMBER; it has no say.
        x = Due.with("l;p1m12;p1t00;p1i324;p1n3;p1n5");
        share(x, 0, 3, 102, 1, 1);
        share(x, 0, 3, 101, 0, 1);
        share(x, 2, 3, 101, 9, 10);
    }

    private static void odds() {
        NeedOnce x = Due.with("l;p1i123;p1n4;p1t01;p1n7;p1m11;p1f0;p1a15");
        share(x, 1, 1, 4, 1, 10);
        share(x, 1, 1, 10, 0, 1);
        share(x, 3, 1, 7, 1, 1);
        share(x, 0, 1, 100, 9, 10);
        share(x, 0, 1, 7, 1, 10);
        share(x, 4, 1, 1, 1, 10);
        share(x, 4, 1, 81, 1, 10);
        share(x, 5, 1, 102, 1, 10);
        share(x, 5, 1, 100, 9, 10);
        share(x, 6, 1, 102, 1, 1);
        x = Due.with("l;p1m12;p1n4;p1n0;p1i333");
        share(x, 0, 1, 0, 1, 1);
        share(x, 3, 1, 101, 1, 1);
        // Times 5 times 4: each of 0, 20, 40, 60, 80 twice.
        x = Due.with("l;p1m12;p1n4;p1m34;p1n5;p1n4");
        for (int v = 0; v < 100; v += 20) share(x, 0, 1, v, 1, 5);
        share(x, 0, 1, 10, 0, 1);
        // Times 25 and again 25: 0 or 50, half of them each.
        x = Due.with("l;p1m12;p1n4;p1a33;p1m44;p1n5");
        share(x, 0, 1, 0, 1, 2);
        share(x, 0, 1, 50, 1, 2);
        // Its fourth power: 0, 1, 16, 81, 56, 25, 96, 1, 96, 61.
        x = Due.with("l;p1m11;p1m22;p1n4");
        share(x, 0, 2, 1, 1, 5);
        share(x, 0, 2, 25, 1, 10);
        share(x, 0, 2, 96, 1, 5);
        x.need(0);
        share(x, 0, 2, 25, 1, 10);
        Due.is("2: refused", Due.heap(x, "l;p1n1;p1n1;p1n1;"), -117);
        share(x, 0, 2, 25, 1, 10);
        Due.is("17: nothing is changed", x.ofCell(2, 10), 4);
        Due.is("17: nothing is changed", x.ofCell(0, 5), 56);
        Due.is("17: nothing is changed", x.spent(), 3);
    }

    private static void share(NeedOnce x, int c, int number, int v, int upper, int lower) {
        String call = "17: odds(" + c + ", " + number + ", " + v + ")";
        Due.is(call, x.odds(c, number, v, 0), upper);
        Due.is(call, x.odds(c, number, v, 1), lower);
    }

    private static void oddsRefusals() {
        NeedOnce x = Due.with("l;p1t11;p1n4");
        int[][] calls = {{2, 1, 0, 0}, {-1, 1, 0, 0}, {0, 2, 0, 0}, {0, -1, 0, 0}, {1, 0, 0, 0},
            {0, 1, -1, 0}, {0, 1, 103, 0}, {0, 1, 0, -1}, {0, 1, 0, 2}};
        x.put(3, 0, 0);
        for (int[] call : calls) Due.is("17: lost", x.odds(call[0], call[1], call[2], call[3]), NeedOnce.LOST);
        Due.is("27: odds names no fault", x.fault(), 1);
    }
}
