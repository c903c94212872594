/** The terms ahead of part 1: refusals, faults, their order, sets, shares. */
final class EdgesOfTerms {
    private static final int[] NO_CELLS = {-1, 5, 7, 8, Integer.MIN_VALUE, Integer.MAX_VALUE};
    private static final int[] NO_SHEETS = {-1, 4, Integer.MIN_VALUE, Integer.MAX_VALUE};

    private EdgesOfTerms() {
    }

    static void run() {
        Edge.part(0);
        unknown();
        otherRefusals();
        orderOfRefusals();
        refusalsChangeNothing();
        eachFault();
        orderOfFaults();
        whatFaultsAnswer();
        numbers();
    }

    private static void unknown() {
        Edge.says("REFUSALS: UNKNOWN (there is no such CELL, SHEET, place of a row),");
        NeedOnce x = Edge.used();
        for (int c : NO_CELLS) unknownCell(x, c);
        for (int sheet : NO_SHEETS) unknownSheet(x, sheet);
        for (int c = 0; c < 5; c++) Edge.is("a cell there is", x.ofCell(c, 4) >= 0 ? 1 : 0, 1);
        for (int k = 0; k < 4; k++) Edge.is("a sheet there is", x.sheet(k, 0, 1), 1);
        NeedOnce none = new NeedOnce();
        for (int c : new int[] {-1, 0, 1, 7}) unknownCell(none, c);
    }

    private static void unknownCell(NeedOnce x, int c) {
        int[] got = {x.ofCell(c, 0), x.price(c, 1), x.need(c), x.plainly(c), x.reading(c, 0), x.kinds(c), x.prices(c),
            x.tell(c), x.point(c), x.as(c, 0)};
        for (int k = 0; k < got.length; k++) Edge.is("call " + k + " of cell " + c, got[k], -1);
        Edge.is("odds of cell " + c, x.odds(c, 1, 5, 0), Long.MIN_VALUE);
        Edge.is("odds by number " + c, x.odds(1, c, 5, 0), Long.MIN_VALUE);
    }

    private static void unknownSheet(NeedOnce x, int k) {
        int[] got = {x.heap(k, 2, 0, 28), x.day(k, 2, 0, 0, 0), x.sheet(k, 0, 1), x.lose(k), x.put(k, 0, 0),
            x.copy(k, 0, 0, 0, 0), x.copy(0, 0, k, 0, 0)};
        for (int at = 0; at < got.length; at++) Edge.is("call " + at + " of sheet " + k, got[at], -1);
        Edge.is("cell of sheet " + k, x.cell(k, 0, 2), Long.MIN_VALUE);
    }

    private static void otherRefusals() {
        Edge.says("OUTSIDE (another number is not as told),");
        NeedOnce x = Edge.used();
        int[] outside = {x.heap(0, 3, 0, 28), x.ofCell(0, 7), x.price(0, 10), x.latest(3), x.held(256),
            x.day(0, 3, 0, 0, 0), x.reading(0, 201), x.back(2), x.sheet(0, 3, 1), x.as(0, 3), x.many(4)};
        for (int k = 0; k < outside.length; k++) Edge.is("call " + k, outside[k], -2);
        Edge.says("STATE (as told),");
        NeedOnce none = new NeedOnce();
        none.sheet(0, 0, 0);
        Edge.is("a day without cells", none.day(0, 0, 0, 0, 1), -3);
        Edge.is("a day with cells", x.day(1, 0, 0, 0, 1), -9);
        Edge.says("FULL;");
        for (int k = 1; k < 8; k++) Edge.is("reading", x.reading(0, 0), k);
        Edge.is("a ninth reading", x.reading(0, 0), -4);
    }

    /** Of each call that has several: all from one refusal on, in the order of its line. */
    private static void orderOfRefusals() {
        Edge.says("of several the first in the order in which a call's line tells them.");
        Edge.refusedAndNoFault("heap: sheet, lane, size", -1, x -> x.heap(4, 3, -1, -1));
        Edge.refusedAndNoFault("heap: lane, cast, size", -2, x -> x.heap(0, 3, -1, -1));
        Edge.refused("ofCell: cell, what", -1, x -> x.ofCell(5, 7));
        Edge.refused("price: cell, price", -1, x -> x.price(5, 0));
        Edge.refusedAndNoFault("day: sheet, lane", -1, x -> x.day(4, 3, -1, 21, 5));
        Edge.refusedAndNoFault("day: lane, cast", -2, x -> x.day(1, 3, -1, 1, 0));
        Edge.refusedAndNoFault("day: n, cast", -2, x -> x.day(1, 1, -1, 21, 0));
        Edge.refusedAndNoFault("day: what, cast", -2, x -> x.day(1, 1, -1, 1, 5));
        NeedOnce none = new NeedOnce();
        Edge.is("day: lane, state", none.day(0, 3, 0, 0, 0), -2);
        Edge.is("day: n, state", none.day(0, 0, 0, 21, 0), -2);
        Edge.is("day: what, state", none.day(0, 0, 0, 0, 5), -2);
        Edge.is("day: state, null", none.day(0, 0, 0, 0, 0), -3);
        none.sheet(0, 0, 0);
        Edge.is("day: state, cast", none.day(0, 1, 0, 0, 0), -3);
        Edge.is("day: state, index", none.day(0, 0, 1, 1, 0), -3);
        Edge.refused("reading: cell, c", -1, x -> x.reading(5, 201));
        NeedOnce full = Due.with("l;p3n1");
        for (int k = 0; k < 8; k++) full.reading(0, 3);
        Edge.is("reading: cell, full", full.reading(1, 3), -1);
        Edge.is("reading: c, full", full.reading(0, 201), -2);
        Edge.is("reading: full", full.reading(0, 200), -4);
        Edge.refusedAndNoFault("sheet: sheet, lane", -1, x -> x.sheet(4, 3, 61));
        Edge.refusedAndNoFault("sheet: lane, size", -2, x -> x.sheet(1, 3, -1));
        Edge.refusedAndNoFault("put: sheet, index", -1, x -> x.put(4, -1, 0));
        Edge.refusedAndNoFault("cell: sheet, lane", NeedOnce.LOST, x -> x.cell(4, -1, 3));
        Edge.refusedAndNoFault("cell: lane, index", NeedOnce.LOST, x -> x.cell(1, -1, 3));
        Edge.refusedAndNoFault("copy: the first, null", -1, x -> x.copy(4, -1, 3, -1, -1));
        Edge.refusedAndNoFault("copy: the other, null", -1, x -> x.copy(3, -1, 4, -1, -1));
        Edge.refusedAndNoFault("as: cell, kind", -1, x -> x.as(5, 3));
    }

    private static void refusalsChangeNothing() {
        Edge.says("They change nothing (but fault(), of a call that names FAULTS).");
        Edge.refused("ofCell", -2, x -> x.ofCell(0, 7));
        Edge.refused("price of no cell", -1, x -> x.price(5, 9));
        Edge.refused("price", -2, x -> x.price(0, 10));
        Edge.refused("need", -1, x -> x.need(5));
        Edge.refused("latest", -2, x -> x.latest(18));
        Edge.refused("held", -2, x -> x.held(-1));
        Edge.refused("plainly", -1, x -> x.plainly(5));
        Edge.refused("reading of no cell", -1, x -> x.reading(5, 1));
        Edge.refused("reading", -2, x -> x.reading(0, 201));
        Edge.refused("back", -2, x -> x.back(2));
        Edge.refused("kinds", -1, x -> x.kinds(5));
        Edge.refused("prices", -1, x -> x.prices(5));
        Edge.refused("odds", NeedOnce.LOST, x -> x.odds(0, 0, 0, 0));
        Edge.refused("lose", -1, x -> x.lose(4));
        Edge.refused("tell", -1, x -> x.tell(5));
        Edge.refused("point", -1, x -> x.point(5));
        Edge.refused("many", -2, x -> x.many(4));
        Edge.refusedAndNoFault("heap of no sheet", -1, x -> x.heap(4, 2, 0, 28));
        Edge.refusedAndNoFault("heap", -2, x -> x.heap(0, 3, 0, 28));
        Edge.refusedAndNoFault("heap of what is no text", -105, x -> x.heap(0, 2, 0, 5));
        Edge.refusedAndNoFault("heap of a loose text", -200, x -> x.heap(0, 2, 0, 7));
        Edge.refusedAndNoFault("day of no sheet", -1, x -> x.day(4, 0, 0, 1, 0));
        Edge.refusedAndNoFault("day", -2, x -> x.day(1, 0, 0, 21, 0));
        Edge.refusedAndNoFault("day of a pair that is none", -2, x -> x.day(1, 0, 3, 1, 0));
        Edge.refusedAndNoFault("sheet of no number", -1, x -> x.sheet(4, 0, 1));
        Edge.refusedAndNoFault("sheet", -2, x -> x.sheet(1, 0, 61));
        Edge.refusedAndNoFault("put", -1, x -> x.put(4, 0, 1));
        Edge.refusedAndNoFault("cell", NeedOnce.LOST, x -> x.cell(4, 0, 1));
        Edge.refusedAndNoFault("copy", -1, x -> x.copy(0, 0, 4, 0, 1));
        Edge.refusedAndNoFault("as", -2, x -> x.as(0, 3));
    }

    private static void eachFault() {
        Edge.says("FAULTS are the machine's: 1 NULL (there is nothing),");
        Edge.faults("heap", 1, x -> x.heap(3, 0, 0, 0));
        Edge.faults("day", 1, x -> x.day(3, 0, 0, 0, 0));
        Edge.faults("put", 1, x -> x.put(3, 0, 0));
        Edge.faultsAndLost("cell", 1, x -> x.cell(3, 0, 0));
        Edge.faults("copy from", 1, x -> x.copy(3, 0, 0, 0, 0));
        Edge.faults("copy to", 1, x -> x.copy(0, 0, 3, 0, 0));
        NeedOnce empty = new NeedOnce();
        empty.sheet(0, 0, 0);
        Edge.is("an empty row is not nothing", empty.put(0, 0, 0), -13);
        Edge.says("2 CAST (it is of another LANE, kind),");
        Edge.faults("heap", 2, x -> x.heap(0, 1, 0, 28));
        Edge.faults("day", 2, x -> x.day(1, 1, 0, 1, 0));
        Edge.faultsAndLost("cell", 2, x -> x.cell(1, 0, 2));
        Edge.faults("copy", 2, x -> x.copy(1, 0, 2, 0, 1));
        Edge.faults("as", 2, x -> x.as(1, 2));
        Edge.says("3 INDEX (of cells from i on also where i is not 0 .. how many there are, if none of them is taken, too),");
        Edge.faults("heap below 0", 3, x -> x.heap(0, 2, -1, 0));
        Edge.faults("heap beyond", 3, x -> x.heap(0, 2, 29, 0));
        Edge.faults("day below 0", 3, x -> x.day(1, 0, -1, 0, 0));
        Edge.faults("day beyond", 3, x -> x.day(1, 0, 6, 0, 0));
        Edge.faults("copy below 0", 3, x -> x.copy(1, -1, 1, 0, 0));
        Edge.faults("copy beyond", 3, x -> x.copy(1, 6, 1, 0, 0));
        Edge.faults("copy to below 0", 3, x -> x.copy(1, 0, 1, -1, 0));
        Edge.faults("copy to beyond", 3, x -> x.copy(1, 0, 1, 6, 0));
        NeedOnce x = Edge.used();
        Edge.is("heap of none at the end", x.heap(0, 2, 28, 0), -100);
        Edge.is("day of none at the end", x.day(1, 0, 5, 0, 1), -9);
        Edge.is("copy of none at the end", x.copy(1, 5, 1, 5, 0), 0);
        Edge.is("none of these is a fault", x.fault(), 0);
        Edge.says("4 SIZE (a length below 0).");
        Edge.faults("heap", 4, y -> y.heap(0, 2, 0, -1));
        Edge.faults("heap, least", 4, y -> y.heap(0, 2, 0, Integer.MIN_VALUE));
        Edge.faults("sheet", 4, y -> y.sheet(1, 0, -1));
        Edge.faults("sheet, least", 4, y -> y.sheet(1, 0, Integer.MIN_VALUE));
        Edge.is("a length of 0 is none", x.sheet(1, 0, 0), 1);
    }

    private static void orderOfFaults() {
        Edge.says("Of a call the first that is come to, in the order told;");
        Edge.faults("heap: cast, size", 2, x -> x.heap(0, 1, -1, -1));
        Edge.faults("heap: null, size", 1, x -> x.heap(3, 1, -1, -1));
        Edge.faults("heap: size, index", 4, x -> x.heap(0, 2, -1, -1));
        Edge.faults("heap: index, no text", 3, x -> x.heap(0, 2, 1, 28));
        Edge.faults("day: cast, index", 2, x -> x.day(1, 1, -1, 1, 0));
        Edge.faults("day: null, index", 1, x -> x.day(3, 1, -1, 1, 0));
        Edge.faults("day: index, no pair", 3, x -> x.day(1, 0, 1, 3, 0));
        Edge.faults("put: null, index", 1, x -> x.put(3, -1, 0));
        Edge.faultsAndLost("cell: cast, index", 2, x -> x.cell(1, -1, 1));
        Edge.faultsAndLost("cell: null, index", 1, x -> x.cell(3, -1, 1));
        Edge.faults("copy: the first null, index", 1, x -> x.copy(3, -1, 0, -1, -1));
        Edge.faults("copy: the other null, index", 1, x -> x.copy(0, -1, 3, -1, -1));
        Edge.faults("copy: cast, index", 2, x -> x.copy(1, -1, 2, -1, -1));
    }

    private static void whatFaultsAnswer() {
        Edge.says("it answers -10 less it (LOST, where a long is answered, as for refusals)");
        NeedOnce x = Edge.used();
        Edge.is("null", x.put(3, 0, 0), -11);
        Edge.is("cast", x.as(0, 1), -12);
        Edge.is("index", x.put(1, 5, 0), -13);
        Edge.is("size", x.sheet(1, 0, -1), -14);
        Edge.is("a fault where a long is answered", x.cell(1, 5, 0), Long.MIN_VALUE);
        Edge.is("a refusal where a long is answered", x.cell(4, 0, 0), Long.MIN_VALUE);
        Edge.is("a refusal where a long is answered", x.odds(0, 0, 0, 0), Long.MIN_VALUE);
        Edge.says("and changes nothing;");
        Edge.faults("heap", 3, y -> y.heap(0, 2, 0, 29));
        Edge.faults("day", 3, y -> y.day(1, 0, 0, 3, 0));
        Edge.faults("put", 3, y -> y.put(1, 5, 77));
        Edge.faults("sheet", 4, y -> y.sheet(1, 2, -1));
        Edge.faults("copy, that begins well", 3, y -> y.copy(1, 0, 1, 1, 5));
        Edge.faults("as", 2, y -> y.as(0, 2));
        Edge.says("fault() tells it.");
        int[] due = {1, 2, 3, 4, 3, 2, 1};
        for (int fault : due) {
            if (fault == 1) x.put(3, 0, 0);
            if (fault == 2) x.as(0, 1);
            if (fault == 3) x.cell(1, 5, 0);
            if (fault == 4) x.sheet(1, 0, -1);
            Edge.is("fault()", x.fault(), fault);
        }
    }

    private static void numbers() {
        Edge.says("NONE is -9.");
        Edge.is("NONE", NeedOnce.NONE, -9);
        NeedOnce x = Due.with("l;p1n5");
        Edge.is("asleep", x.ofCell(0, 5), -9);
        Edge.says("Sets are told as bits (bit k for number k).");
        Edge.is("all kinds", x.kinds(0), 7);
        Edge.is("all prices", x.prices(0), 1022);
        x.reading(0, 1);
        Edge.is("kinds: 0", x.kinds(0), 1);
        Edge.is("prices: 1", x.prices(0), 1 << 1);
        x = Due.with("l;w9n5");
        x.reading(0, 18);
        Edge.is("kinds: 2", x.kinds(0), 1 << 2);
        Edge.is("prices: 9", x.prices(0), 1 << 9);
        x = Due.with("l;p1n0;p1n0;p1n0;p1n0;p1n0;p1n0;p1n0;p1n0");
        for (int c = 0; c < 8; c++) Edge.is("cells: " + c, x.held(1 << c), 1 << c);
        Edge.says("Shares are told as upper and lower number (above 0) in least terms.");
        String tens = ";p1n0;p1n1;p1a12;p1m13;p1n5;p1a44;p1m65";
        String twenties = "l;p1i254;p1n0;p1m13;p1m45;p1n5;p1n4";
        // CELL 1 is x: then CELL 7 of tens is 10 x (x + 1), which is 0 by 0, 4, 5, 9; CELL 2 of twenties is 20 x.
        share("l;p1i751" + tens, 1, 10, 0, 1);
        share("l;p1i751" + tens, 1, 9, 1, 10);
        share(twenties, 0, 5, 1, 5);
        share("l;p1i172" + tens, 0, 0, 3, 10);
        share("l;p1i751" + tens, 7, 0, 2, 5);
        share("l;p1m12;p1n4;p1a33;p1m44;p1n5", 0, 50, 1, 2);
        share("l;p1i721" + tens, 0, 1, 3, 5);
        share("l;p1i751" + tens, 0, 5, 7, 10);
        share(twenties, 0, 4, 4, 5);
        share("l;p1i123;p1n0;p1n1;p1n2", 0, 1, 9, 10);
        share("l;p1n3;p1n0", 0, 3, 1, 1);
    }

    private static void share(String text, int c, int v, int upper, int lower) {
        NeedOnce x = Due.with(text);
        Edge.is("upper of " + v + " of " + text, x.odds(c, 1, v, 0), upper);
        Edge.is("lower of " + v + " of " + text, x.odds(c, 1, v, 1), lower);
    }
}
