/** Part 3 of the terms, and promises 13 to 17. */
final class EdgesOfCost {
    private static final int ALL_PRICES = 1022;

    private EdgesOfCost() {
    }

    static void run() {
        Edge.part(3);
        readingsOf();
        setsOf();
        oddsOf();
        reading();
        back();
        kinds();
        prices();
        odds();
    }

    private static NeedOnce with(String text, int... readings) {
        NeedOnce x = Due.with(text);
        for (int k = 0; k < readings.length; k += 2) Edge.is("reading", x.reading(readings[k], readings[k + 1]), k / 2);
        return x;
    }

    private static void readingsOf() {
        Edge.says("READINGS, 8 at most, numbered by how many there are:");
        NeedOnce x = Due.with("l;p3n1;p1n2");
        for (int k = 0; k < 8; k++) {
            Edge.is("how many", x.many(3), k);
            Edge.is("number", x.reading(k % 2, k), k);
        }
        Edge.is("a ninth", x.reading(0, 3), -4);
        Edge.is("still eight", x.many(3), 8);
        x.back(1);
        Edge.is("the eighth again", x.reading(0, 3), 7);
        Edge.is("and no ninth", x.reading(0, 3), -4);
        Edge.says("from all CELLS ASLEEP as told (no LINKS), COST of all that is WORKED, if a CELL is NEEDED, is c.");
        x = with("l;p3t12;d2n5;w7a11;p4f0", 3, 10);
        Edge.is("as told", x.kinds(3), 1);
        x.need(3);
        Edge.is("awake now", x.kinds(3), 1);
        x.sleep();
        x.need(0);
        x.shorten();
        Edge.is("a link now", x.kinds(3), 1);
        x.back(1);
        x.reading(3, 3);
        Edge.is("not as for a link", x.kinds(3), 0);
        x = with("l;p3a11;p4n5", 0, 7);
        Edge.is("each once", x.kinds(0), 1);
        x = with("l;p3a01;p4n5", 0, 3);
        Edge.is("of a loop", x.kinds(0), 1);
        Edge.is("what sleeps on is not in it", x.kinds(1), 7);
        x = with("l;p3a12;p4f2;p5n1", 0, 12);
        Edge.is("of what is wrong", x.kinds(2), 1);
        x = with("l;p3a12;p4n1;p5n1", 0, 11);
        Edge.is("one less", x.kinds(0), 0);
        x = with("l;p3a12;p4n1;p5n1", 0, 13);
        Edge.is("one more is dear", x.kinds(0), 2);
        Edge.is("by the price now", x.price(0, 4) == 3 ? x.kinds(0) : -1, 1);
    }

    private static void setsOf() {
        Edge.says("All that follows: in place of what it is alone, by which all READINGS are so:");
        NeedOnce x = with("l;p2a12;p2n1;p2n2", 0, 7);
        for (int c = 0; c < 3; c++) Edge.is("one of them is dear", x.kinds(c), 2);
        for (int c = 0; c < 3; c++) Edge.is("one of them is at 3", x.prices(c), 8);
        x.reading(1, 3);
        Edge.is("this one", x.kinds(1), 2);
        Edge.is("not this one", x.kinds(0), 0);
        Edge.is("this one", x.prices(1), 8);
        Edge.is("not this one", x.prices(2), 0);
        x.reading(2, 3);
        for (int c = 0; c < 3; c++) Edge.is("none alone", x.kinds(c), 0);
        for (int c = 0; c < 3; c++) Edge.is("none alone", x.prices(c), 0);
        for (int c = 0; c < 3; c++) Edge.is("nothing is changed", x.ofCell(c, 2), 2);
        x = with("l;p2n1", 0, 2, 0, 3);
        Edge.is("the last one, too", x.kinds(0), 0);
        x = with("l;p2n1", 0, 3, 0, 2);
        Edge.is("the first one, too", x.kinds(0), 0);
        x = Due.with("l;p2n1;d3n1;w4n1");
        for (int c = 0; c < 3; c++) Edge.is("no readings", x.kinds(c), 7);
        for (int c = 0; c < 3; c++) Edge.is("no readings", x.prices(c), ALL_PRICES);
        Edge.says("KINDS of a CELL: 0 .. 2;");
        int[] cost = {5, 6, 10};
        for (int kind = 0; kind < 3; kind++) Edge.is("kind", with("l;d5n1", 0, cost[kind]).kinds(0), 1 << kind);
        Edge.is("dear or double at 1", with("l;p1n1", 0, 2).kinds(0), 6);
        Edge.is("no kind", with("l;p5n1", 0, 7).kinds(0), 0);
        Edge.is("every kind", with("l;p5n1;p1n1", 1, 1).kinds(0), 7);
        Edge.says("PRICES of a CELL: 1 .. 9; as sets.");
        String[] texts = {"l;p5n1", "l;d5n1", "l;w5n1"};
        for (int c = 0; c <= 20; c++) {
            int[] price = {c, c - 1, c % 2 == 0 ? c / 2 : 0};
            for (int kind = 0; kind < 3; kind++) {
                boolean is = price[kind] >= 1 && price[kind] <= 9;
                Edge.is("kind " + kind + " at " + c, with(texts[kind], 0, c).prices(0), is ? 1 << price[kind] : 0);
            }
        }
        Edge.is("every price", with("l;p5n1;p1n1", 1, 1).prices(0), ALL_PRICES);
    }

    private static void share(NeedOnce x, int c, int number, int v, int upper, int lower) {
        Edge.is("upper of " + v + " of " + c, x.odds(c, number, v, 0), upper);
        Edge.is("lower of " + v + " of " + c, x.odds(c, number, v, 1), lower);
    }

    private static void oddsOf() {
        Edge.says("ODDS of a CELL, another one that is a NUMBER, and v: if that NUMBER is any of 0 .. 9, all alike, all CELLS ASLEEP as told,");
        NeedOnce x = Due.with("l;p1a12;p1n4;p1n9;p1t12;p1f3");
        for (int v = 0; v <= 19; v++) share(x, 0, 1, v, v >= 9 && v <= 18 ? 1 : 0, v >= 9 && v <= 18 ? 10 : 1);
        for (int v = 0; v <= 10; v++) share(x, 1, 1, v, v <= 9 ? 1 : 0, v <= 9 ? 10 : 1);
        share(x, 0, 2, 4, 1, 10);
        share(x, 0, 2, 13, 1, 10);
        share(x, 0, 2, 14, 0, 1);
        share(x, 2, 1, 9, 1, 1);
        x.need(0);
        x.need(3);
        x.shorten();
        share(x, 0, 1, 13, 1, 10);
        share(x, 4, 1, 4, 1, 10);
        share(x, 4, 2, 4, 1, 1);
        Edge.looks("nothing is changed", 1, y -> y.odds(2, 1, 10, 0));
        Edge.says("the share of those by which the first comes to v (0 .. 99 a number, 100 a PAIR, 101 LOOP, 102 WRONG).");
        x = Due.with("l;p1i123;p1n4;p1t00;p1a33;p1i154;p1f1");
        share(x, 0, 1, 100, 9, 10);
        share(x, 0, 1, 101, 1, 10);
        share(x, 0, 1, 102, 0, 1);
        share(x, 4, 1, 102, 9, 10);
        share(x, 4, 1, 101, 1, 10);
        share(x, 4, 1, 100, 0, 1);
        x = Due.with("l;p1m12;p1n9;p1a13;p1n2");
        share(x, 0, 1, 99, 1, 10);
        share(x, 0, 1, 0, 1, 10);
        share(x, 0, 1, 1, 0, 1);
    }

    private static void reading() {
        Edge.promise(13);
        Edge.says("A READING: its number.");
        NeedOnce x = Due.with("l;p3n1");
        for (int k = 0; k < 8; k++) Edge.is("number", x.reading(0, 3), k);
        x = Due.with("l;p3n1");
        Edge.is("least", x.reading(0, 0), 0);
        Edge.is("most", x.reading(0, 200), 1);
        Edge.says("UNKNOWN;");
        for (int c : new int[] {-1, 5, 8, Integer.MIN_VALUE, Integer.MAX_VALUE}) Edge.refused("cell " + c, -1, y -> y.reading(c, 1));
        Edge.is("without cells", new NeedOnce().reading(0, 0), -1);
        Edge.says("OUTSIDE: c (0 .. 200);");
        for (int c : new int[] {-1, 201, Integer.MIN_VALUE, Integer.MAX_VALUE}) Edge.refused("c " + c, -2, y -> y.reading(0, c));
        Edge.says("FULL.");
        x = Due.with("l;p3n1;p4n1");
        for (int k = 0; k < 8; k++) x.reading(0, 3);
        Edge.is("full", x.reading(1, 9), -4);
        Edge.is("nothing is changed", x.many(3), 8);
        Edge.is("nothing is changed", x.kinds(0), 1);
        Edge.is("nothing is changed", x.kinds(1), 7);
        Edge.is("one back", x.back(1), 7);
        Edge.is("no longer full", x.reading(1, 9), 7);
        Edge.is("it is taken", x.kinds(1), 0);
    }

    private static void back() {
        Edge.promise(14);
        Edge.says("The last n READINGS (0 .. as many as there are) are taken back:");
        NeedOnce x = with("l;p3n1;p4n2", 0, 3, 1, 5, 0, 9);
        Edge.is("none alone", x.kinds(1), 0);
        Edge.is("the last", x.back(1), 2);
        Edge.is("the first two stand", x.kinds(1), 2);
        Edge.is("the last of these", x.back(1), 1);
        Edge.is("the first stands", x.kinds(1), 7);
        Edge.is("the first stands", x.kinds(0), 1);
        Edge.is("none", x.back(0), 1);
        Edge.is("the first", x.back(1), 0);
        Edge.is("no readings", x.kinds(0), 7);
        Edge.says("how many are left.");
        x = Due.with("l;p3n1");
        for (int n = 0; n <= 8; n++) {
            for (int k = 0; k < 8; k++) x.reading(0, k);
            Edge.is("left of 8 less " + n, x.back(n), 8 - n);
            Edge.is("left", x.many(3), 8 - n);
            x.back(8 - n);
        }
        Edge.is("none of none", x.back(0), 0);
        Edge.is("without cells", new NeedOnce().back(0), 0);
        Edge.says("OUTSIDE.");
        for (int n : new int[] {-1, 2, 8, Integer.MIN_VALUE, Integer.MAX_VALUE}) Edge.refused("n " + n, -2, y -> y.back(n));
        Edge.is("one of none", x.back(1), -2);
        Edge.is("without cells", new NeedOnce().back(1), -2);
    }

    private static void kinds() {
        Edge.promise(15);
        Edge.says("KINDS, as a set.");
        Edge.is("all", Due.with("l;p3n1").kinds(0), 7);
        Edge.is("none", with("l;p3n1", 0, 0).kinds(0), 0);
        Edge.is("plain", with("l;w3n1", 0, 3).kinds(0), 1);
        Edge.is("dear", with("l;w3n1", 0, 4).kinds(0), 2);
        Edge.is("double", with("l;p3n1", 0, 6).kinds(0), 4);
        Edge.is("dear or double", with("l;p1n1", 0, 2).kinds(0), 6);
        Edge.looks("nothing is changed", 1, x -> x.kinds(3));
        Edge.says("UNKNOWN.");
        for (int c : new int[] {-1, 5, 8, Integer.MIN_VALUE, Integer.MAX_VALUE}) Edge.refused("cell " + c, -1, x -> x.kinds(c));
    }

    private static void prices() {
        Edge.promise(16);
        Edge.says("PRICES, as a set.");
        Edge.is("all", Due.with("l;p3n1").prices(0), ALL_PRICES);
        Edge.is("none below", with("l;p3n1", 0, 0).prices(0), 0);
        Edge.is("the least", with("l;p3n1", 0, 1).prices(0), 2);
        Edge.is("the most", with("l;p3n1", 0, 9).prices(0), 512);
        Edge.is("none above", with("l;p3n1", 0, 10).prices(0), 0);
        Edge.looks("nothing is changed", 2, x -> x.prices(3));
        Edge.says("UNKNOWN.");
        for (int c : new int[] {-1, 5, 8, Integer.MIN_VALUE, Integer.MAX_VALUE}) Edge.refused("cell " + c, -1, x -> x.prices(c));
    }

    private static void odds() {
        Edge.promise(17);
        Edge.says("ODDS of a CELL, one that is a NUMBER, and v (0 .. 102; which 0 the upper, 1 the lower number).");
        NeedOnce x = Due.with("l;p1i123;p1n4;p1f1;p1n7;p1m11");
        share(x, 4, 1, 0, 1, 10);
        share(x, 0, 1, 102, 9, 10);
        share(x, 0, 1, 7, 1, 10);
        share(x, 0, 3, 102, 1, 1);
        share(x, 0, 3, 7, 0, 1);
        Edge.says("LOST: UNKNOWN: either;");
        for (int c : new int[] {-1, 5, 8, Integer.MIN_VALUE, Integer.MAX_VALUE}) {
            Edge.refused("cell " + c, NeedOnce.LOST, y -> y.odds(c, 1, 5, 0));
            Edge.refused("number " + c, NeedOnce.LOST, y -> y.odds(1, c, 5, 0));
        }
        Edge.is("without cells", new NeedOnce().odds(0, 0, 0, 0), NeedOnce.LOST);
        Edge.says("STATE: that is no NUMBER;");
        x = Due.with("l;p1a77;p1m77;p1i777;p1t77;p1f7;p1r7;p1f3;p1n4");
        x.need(3);
        Edge.is("a link", x.shorten(), 1);
        for (int number = 0; number < 7; number++) Edge.is("form " + number, x.odds(7, number, 4, 0), NeedOnce.LOST);
        Edge.is("a number", x.odds(7, 7, 4, 0), 1);
        for (int number : new int[] {0, 2, 3, 4}) Edge.refused("no number", NeedOnce.LOST, y -> y.odds(1, number, 5, 0));
        Edge.says("OUTSIDE.");
        for (int v : new int[] {-1, 103, Integer.MIN_VALUE, Integer.MAX_VALUE}) {
            Edge.refused("v " + v, NeedOnce.LOST, y -> y.odds(1, 1, v, 0));
        }
        for (int which : new int[] {-1, 2, Integer.MIN_VALUE, Integer.MAX_VALUE}) {
            Edge.refused("which " + which, NeedOnce.LOST, y -> y.odds(1, 1, 5, which));
        }
    }
}
