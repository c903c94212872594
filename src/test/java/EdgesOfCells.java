/** Part 1 of the terms, and promises 1 to 4. */
final class EdgesOfCells {
    private static final int L = 108, P = 112, D = 100, W = 119, SEMICOLON = 59;
    private static final String EIGHT = "l;p1n0;p1n0;p1n0;p1n0;p1n0;p1n0;p1n0;p1n0";

    private EdgesOfCells() {
    }

    static void run() {
        Edge.part(1);
        howMany();
        digits();
        forms();
        firstFault();
        codes();
        loose();
        kindsAndCost();
        allAnew();
        newObject();
        heap();
        heapFaults();
        ofCell();
        price();
    }

    private static void text(String text, int want) {
        NeedOnce x = new NeedOnce();
        Edge.is("heap of " + text, Due.heap(x, text), want);
        Edge.is("cells of " + text, x.many(0), Math.max(0, want));
    }

    private static void howMany() {
        Edge.says("CELLS by a TEXT: l, then 1 to 8 CELLS, numbered from 0 on,");
        text("l", -101);
        text("l;p1n0", 1);
        text("l;p1n0;p2n1", 2);
        text(EIGHT.substring(0, 36), 7);
        text(EIGHT, 8);
        text(EIGHT + ";p1n0", -141);
        text(";p1n0", -100);
        text("ll;p1n0", -101);
        NeedOnce x = Due.with("l;p1n7;p2n8;p3n9");
        for (int c = 0; c < 3; c++) Edge.is("cell " + c, x.ofCell(c, 10), 7 + c);
        Edge.says("each: ; and a letter (its kind),");
        text("lp1n0", -101);
        text("l;1n0", -102);
        text("l;;p1n0", -102);
        text("l;pp1n0", -103);
        text("l;p1n0p1n0", -106);
        for (String kind : new String[] {"p", "d", "w"}) text("l;" + kind + "1n0", 1);
    }

    private static void digits() {
        Edge.says("a digit 1 .. 9 (PRICE),");
        text("l;p0n0", -103);
        for (int price = 1; price <= 9; price++) {
            NeedOnce x = Due.with("l;p" + price + "n0");
            Edge.is("price", x.ofCell(0, 1), price);
        }
        text("l;p:n0", -103);
        text("l;p10n0", -104);
        Edge.says("then its FORM: n and a digit 0 .. 9: 0 a NUMBER;");
        text("l;p1n/", -105);
        for (int is = 0; is <= 9; is++) {
            NeedOnce x = Due.with("l;p1n" + is);
            Edge.is("form", x.ofCell(0, 3), 0);
            Edge.is("number", x.ofCell(0, 10), is);
        }
        text("l;p1n:", -105);
        text("l;p1n10", -106);
        Edge.says("or a sign and digits 0 .. 7, its PARTS (CELLS, perhaps itself, perhaps told later):");
        String[] ahead = {"a", "a0", "m", "m0", "i", "i0", "i00", "t", "t0", "f", "r"};
        for (String sign : ahead) {
            int place = 4 + sign.length();
            String rest = "amt".indexOf(sign.charAt(0)) >= 0 ? "0" : sign.startsWith("i") ? "00" : "";
            rest = rest.substring(Math.min(rest.length(), sign.length() - 1));
            text("l;p1" + sign + "/" + rest, -100 - place);
            text("l;p1" + sign + "8" + rest, -100 - place);
            text("l;p1" + sign + "9" + rest, -100 - place);
            text("l;p1" + sign + "0" + rest, 1);
            text("l;p1" + sign + "7" + rest + EIGHT.substring(1, 36), 8);
        }
        NeedOnce x = Due.with("l;p1a01;p1n3");
        Edge.is("itself", x.ofCell(0, 10), 0);
        Edge.is("told later", x.ofCell(0, 11), 1);
        x = Due.with("l;p1n3;p1f0");
        Edge.is("told ahead", x.ofCell(1, 10), 0);
    }

    private static void form(String form, int number, int parts) {
        NeedOnce x = Due.with("l;p1" + form + ";p1n0;p1n0;p1n0");
        Edge.is("form of " + form, x.ofCell(0, 3), number);
        for (int k = 0; k < 3; k++) Edge.is("part " + k + " of " + form, x.ofCell(0, 10 + k), k < parts ? k + 1 : -9);
        text("l;p1" + form.substring(0, form.length() - 1), -103 - form.length());
        text("l;p1" + form + "0", -104 - form.length());
    }

    private static void forms() {
        Edge.says("1 a and two: a SUM;");
        form("a12", 1, 2);
        Edge.says("2 m and two: a PRODUCT;");
        form("m12", 2, 2);
        Edge.says("3 i and three: a CHOICE;");
        form("i123", 3, 3);
        Edge.says("4 t and two: a PAIR;");
        form("t12", 4, 2);
        Edge.says("5 f and one: a FIRST;");
        form("f1", 5, 1);
        Edge.says("6 r and one: a REST.");
        form("r1", 6, 1);
    }

    private static void firstFault() {
        Edge.says("FIRST FAULT: the place (from 0 on) of the first code with which no TEXT goes on");
        String text = "l;p1n0;d2a01;w3i012;p4f0";
        for (int place = 0; place < text.length(); place++) {
            text(text.substring(0, place) + "x" + text.substring(place + 1), -100 - place);
            text(text.substring(0, place) + "x", -100 - place);
            text(text.substring(0, place) + "xx" + text.substring(place), -100 - place);
        }
        text(text + "x", -124);
        text("x", -100);
        NeedOnce x = new NeedOnce();
        Due.row(x, 0, 2, Due.codes("..l;p1n0"));
        Edge.is("from where the text begins", x.heap(0, 2, 2, 6), 1);
        Edge.is("from where the text begins", x.heap(0, 2, 3, 5), -100);
        Edge.is("from where the text begins", x.heap(0, 2, 1, 7), -100);
        Edge.says("(the ; of a ninth CELL);");
        text(EIGHT + ";", -141);
        text(EIGHT + ";x", -141);
        text("l;p1i000;p1i000;p1i000;p1i000;p1i000;p1i000;p1i000;p1i000;p1", -157);
        text(EIGHT.substring(0, 36) + ";", -137);
        Edge.says("how many codes there are, if it just ends too soon.");
        for (int n = 0; n < text.length(); n++) {
            boolean isText = n == 6 || n == 12 || n == 19;
            if (!isText) text(text.substring(0, n), -100 - n);
        }
        text("l;p1n0", 1);
        text(text, 4);
    }

    /** At each place of a TEXT every code of a byte, and some beyond: with which of them it goes on. */
    private static void codes() {
        Edge.says("(Codes: l 108, the kinds' p 112, d 100, w 119, ; 59, n 110, a 97, m 109, i 105, t 116, f 102, r 114, digits 48 .. 57.)");
        goOn(new int[] {}, new int[] {L});
        goOn(new int[] {L}, new int[] {SEMICOLON});
        goOn(new int[] {L, SEMICOLON}, new int[] {P, D, W});
        goOn(new int[] {L, SEMICOLON, P}, new int[] {49, 50, 51, 52, 53, 54, 55, 56, 57});
        goOn(new int[] {L, SEMICOLON, P, 49}, new int[] {110, 97, 109, 105, 116, 102, 114});
        goOn(new int[] {L, SEMICOLON, P, 49, 110}, new int[] {48, 49, 50, 51, 52, 53, 54, 55, 56, 57});
        for (int sign : new int[] {97, 109, 105, 116, 102, 114}) {
            goOn(new int[] {L, SEMICOLON, P, 49, sign}, new int[] {48, 49, 50, 51, 52, 53, 54, 55});
        }
        goOn(new int[] {L, SEMICOLON, P, 49, 110, 48}, new int[] {SEMICOLON});
    }

    private static void goOn(int[] ahead, int[] with) {
        NeedOnce x = new NeedOnce();
        int n = ahead.length;
        int[] row = java.util.Arrays.copyOf(ahead, n + 2);
        Due.row(x, 0, 2, row);
        // Behind it a code with which nothing goes on: the FIRST FAULT is there, or ahead of it.
        for (int code = -1; code < 128; code++) {
            x.put(0, n, code);
            int due = isOneOf(code, with) ? n + 1 : n;
            Edge.is("code " + code + " at " + n, x.heap(0, 2, 0, n + 2), -100 - due);
        }
        for (int code : with) {
            for (int far : new int[] {256, -256, 65536, -65536}) {
                x.put(0, n, code + far);
                Edge.is("code " + (code + far) + " at " + n, x.heap(0, 2, 0, n + 2), -100 - n);
            }
        }
    }

    private static boolean isOneOf(int code, int[] with) {
        for (int one : with) if (one == code) return true;
        return false;
    }

    private static void loose() {
        Edge.says("LOOSE is one with a PART there is not.");
        String[] forms = {"a#0", "a0#", "m#0", "m0#", "i#00", "i0#0", "i00#", "t#0", "t0#", "f#", "r#"};
        for (String form : forms) {
            for (int many = 1; many <= 8; many++) {
                String others = EIGHT.substring(1, 1 + 5 * (many - 1));
                text("l;p1" + form.replace('#', (char) ('0' + many - 1)) + others, many);
                if (many == 8) continue;
                text("l;p1" + form.replace('#', (char) ('0' + many)) + others, -200);
                text("l;p1" + form.replace('#', '7') + others, -200);
            }
        }
        text("l;p1n9", 1);
        text("l;p1n1", 1);
    }

    private static void kindsAndCost() {
        Edge.says("Kinds: 0 PLAIN (p); 1 DEAR (d), a PLAIN one; 2 DOUBLE (w), a DEAR one.");
        NeedOnce x = Due.with("l;p1n0;d1n0;w1n0");
        for (int c = 0; c < 3; c++) {
            Edge.is("kind", x.ofCell(c, 0), c);
            for (int kind = 0; kind < 3; kind++) Edge.is(c + " is " + kind, x.as(c, kind), kind <= c ? 1 : -12);
        }
        Edge.says("COST of a CELL: of a PLAIN one PRICE;");
        for (int price = 1; price <= 9; price++) Edge.is("plain", Due.with("l;p" + price + "n0").ofCell(0, 2), price);
        Edge.says("of a DEAR one 1 more;");
        for (int price = 1; price <= 9; price++) Edge.is("dear", Due.with("l;d" + price + "n0").ofCell(0, 2), price + 1);
        Edge.says("of a DOUBLE one twice what a PLAIN one's is.");
        for (int price = 1; price <= 9; price++) Edge.is("double", Due.with("l;w" + price + "n0").ofCell(0, 2), 2 * price);
    }

    private static void allAnew() {
        Edge.says("A TEXT that is taken makes all anew: all CELLS are ASLEEP,");
        NeedOnce x = Edge.used();
        Edge.is("heap", x.heap(0, 2, 0, 28), 5);
        for (int c = 0; c < 5; c++) {
            Edge.is("asleep", x.ofCell(c, 4), 0);
            Edge.is("came to", x.ofCell(c, 5), -9);
            Edge.is("no link", x.ofCell(c, 6), -9);
            Edge.is("form", x.ofCell(c, 3), new int[] {4, 0, 1, 5, 6}[c]);
        }
        Edge.is("awake", x.many(1), 0);
        Edge.is("links", x.many(2), 0);
        x.price(0, 9);
        Edge.is("heap", x.heap(0, 2, 0, 28), 5);
        Edge.is("price as told", x.ofCell(0, 1), 3);
        Edge.is("what a day did", Due.day(x, 2, 0, 0, 0, 20, 0, 3), 3);
        Edge.is("heap", x.heap(0, 2, 0, 28), 5);
        Edge.is("awake", x.many(1), 0);
        Edge.is("links", x.many(2), 0);
        Edge.is("fewer", Due.heap(x, "l;p1n4"), 1);
        Edge.is("no others", x.ofCell(1, 0), -1);
        Edge.is("more", Due.heap(x, "l;p1a11;p1n4"), 2);
        Edge.is("need", x.need(0), 8);
        Edge.says("nothing was SPENT,");
        x = Edge.used();
        Edge.is("spent", x.spent(), 7);
        Edge.is("heap", x.heap(0, 2, 0, 28), 5);
        Edge.is("spent", x.spent(), 0);
        x.need(1);
        Edge.is("spent", x.spent(), 3);
        Edge.is("what a day did", Due.day(x, 0, 0, 3), 7);
        Edge.is("heap", x.heap(0, 2, 0, 28), 5);
        Edge.is("spent", x.spent(), 0);
        Edge.says("no READINGS.");
        x = Edge.used();
        Edge.is("readings", x.many(3), 1);
        Edge.is("heap", x.heap(0, 2, 0, 28), 5);
        Edge.is("readings", x.many(3), 0);
        Edge.is("none is taken back", x.back(1), -2);
        Edge.is("all kinds again", x.kinds(3), 7);
        Edge.is("numbered anew", x.reading(0, 1), 0);
    }

    private static void newObject() {
        Edge.promise(1);
        Edge.says("No CELLS,");
        NeedOnce x = new NeedOnce();
        for (int what = 0; what < 4; what++) Edge.is("many " + what, x.many(what), 0);
        for (int c = 0; c < 8; c++) Edge.is("cell " + c, x.ofCell(c, 0), -1);
        Edge.is("held", x.held(255), 0);
        Edge.is("spent", x.spent(), 0);
        Edge.is("sleep", x.sleep(), 0);
        Edge.is("shorten", x.shorten(), 0);
        Edge.says("SHEETS have nothing.");
        for (int k = 0; k < 4; k++) {
            Edge.is("put", x.put(k, 0, 0), -11);
            for (int lane = 0; lane < 3; lane++) {
                Edge.is("cell", x.cell(k, 0, lane), NeedOnce.LOST);
                Edge.is("null", x.fault(), 1);
            }
            Edge.is("lose", x.lose(k), 0);
        }
    }

    private static void heap() {
        Edge.promise(2);
        Edge.says("CELLS by a TEXT of n cells of a SHEET from i on, taken as a row of a LANE: how many;");
        for (int lane = 0; lane < 3; lane++) {
            for (int sheet = 0; sheet < 4; sheet++) {
                NeedOnce x = new NeedOnce();
                Due.row(x, sheet, lane, Due.codes("xl;p1n0;p2n1;p3n2y"));
                Edge.is("one", x.heap(sheet, lane, 1, 6), 1);
                Edge.is("two", x.heap(sheet, lane, 1, 11), 2);
                Edge.is("three", x.heap(sheet, lane, 1, 16), 3);
                Edge.is("beyond the text", x.heap(sheet, lane, 1, 17), -116);
                Edge.is("all are there", x.many(0), 3);
            }
        }
        String longest = "l;p1i000;p1i000;p1i000;p1i000;p1i000;p1i000;p1i000;p1i777";
        NeedOnce x = new NeedOnce();
        Due.row(x, 0, 0, Due.codes("..." + longest));
        Edge.is("a whole row", x.heap(0, 0, 3, 57), 8);
        Edge.says("-100 less the FIRST FAULT;");
        Edge.refusedAndNoFault("at once", -100, y -> y.heap(1, 0, 0, 5));
        Edge.refusedAndNoFault("of none", -100, y -> y.heap(0, 2, 5, 0));
        Edge.refusedAndNoFault("too soon", -127, y -> y.heap(0, 2, 0, 27));
        cellsStay("l;w9n1;w9n1;w9n1;w9n", -120);
        Edge.says("-200 less the first CELL that is LOOSE.");
        text("l;p1f1", -200);
        text("l;p1n1;p1f2", -201);
        text("l;p1n1;p1f2;p1f7", -202);
        text("l;p1n0;p1n0;p1n0;p1n0;p1n0;p1n0;p1f7", -206);
        text("l;p1f2;p1f2", -200);
        Edge.refusedAndNoFault("loose", -200, y -> y.heap(0, 2, 0, 12));
        cellsStay("l;w9n1;w9n1;w9n1;w9f7", -203);
    }

    /** Whatever is asked first behind a TEXT that is not taken, it is asked of the CELLS that were there. */
    private static void cellsStay(String text, int want) {
        NeedOnce x = Due.with("l;p1a11;p2m22;p3n4");
        x.reading(0, 6);
        Edge.Call[] calls = {y -> y.plainly(0), y -> y.kinds(0), y -> y.prices(0), y -> y.odds(0, 2, 50, 0),
            y -> y.day(1, 0, 0, 1, 0), y -> y.ofCell(0, 11), y -> y.held(1), y -> y.many(0), y -> y.need(0)};
        int[] due = {7, 1, 2, 1, 6, 1, 7, 3, 32};
        Due.row(x, 1, 0, 0, 0);
        for (int k = 0; k < calls.length; k++) {
            Edge.is("heap of " + text, Due.heap(x, text), want);
            Edge.is("call " + k + " behind it", calls[k].on(x), due[k]);
        }
    }

    private static void heapFaults() {
        Edge.says("UNKNOWN;");
        Edge.refusedAndNoFault("below", -1, x -> x.heap(-1, 2, 0, 28));
        Edge.refusedAndNoFault("above", -1, x -> x.heap(4, 2, 0, 28));
        Edge.says("OUTSIDE: lane;");
        Edge.refusedAndNoFault("below", -2, x -> x.heap(0, -1, 0, 28));
        Edge.refusedAndNoFault("above", -2, x -> x.heap(0, 3, 0, 28));
        Edge.refusedAndNoFault("of nothing", -2, x -> x.heap(3, 3, 0, 28));
        Edge.says("CAST (nothing is no CAST);");
        Edge.faults("bytes for ints", 2, x -> x.heap(0, 0, 0, 28));
        Edge.faults("shorts for ints", 2, x -> x.heap(0, 1, 0, 28));
        Edge.faults("ints for bytes", 2, x -> x.heap(1, 2, 0, 5));
        for (int lane = 0; lane < 3; lane++) {
            int of = lane;
            Edge.faults("nothing", 1, x -> x.heap(3, of, 0, 0));
        }
        Edge.says("NULL;");
        Edge.faults("null", 1, x -> x.heap(3, 2, 0, 6));
        Edge.faults("lost", 1, x -> x.lose(3) == 0 ? x.heap(3, 2, 0, 6) : 0);
        Edge.says("SIZE: n below 0;");
        Edge.faults("just below", 4, x -> x.heap(0, 2, 0, -1));
        Edge.faults("far below", 4, x -> x.heap(0, 2, 28, Integer.MIN_VALUE));
        Edge.faults("ahead of index", 4, x -> x.heap(0, 2, 29, -1));
        Edge.says("INDEX; -100 less it, -200 less it.");
        Edge.faults("below", 3, x -> x.heap(0, 2, -1, 1));
        Edge.faults("far below", 3, x -> x.heap(0, 2, Integer.MIN_VALUE, 1));
        Edge.faults("one beyond", 3, x -> x.heap(0, 2, 0, 29));
        Edge.faults("one beyond", 3, x -> x.heap(0, 2, 28, 1));
        Edge.faults("far beyond", 3, x -> x.heap(0, 2, 28, Integer.MAX_VALUE));
        Edge.faults("far beyond", 3, x -> x.heap(0, 2, Integer.MAX_VALUE, Integer.MAX_VALUE));
        Edge.faults("none, beyond", 3, x -> x.heap(0, 2, 29, 0));
        Edge.refusedAndNoFault("none, at the end", -100, x -> x.heap(0, 2, 28, 0));
        Edge.refusedAndNoFault("the last one", -100, x -> x.heap(0, 2, 27, 1));
        text("l;p1f7;p1f8", -110);
        text("l;p1f7;", -107);
    }

    private static void ofCell() {
        Edge.promise(3);
        NeedOnce x = Due.with("l;d3t12;p2n5;w7a11;p1i120;p4r0;d9f0;p1f2;p1a77");
        for (int c : new int[] {0, 3, 6, 7}) x.need(c);
        x.shorten();
        Edge.says("Of a CELL: 0 kind,");
        all(x, 0, 1, 0, 2, 0, 0, 1, 0, 0);
        Edge.says("1 PRICE,");
        all(x, 1, 3, 2, 7, 1, 4, 9, 1, 1);
        Edge.says("2 COST,");
        all(x, 2, 4, 2, 14, 1, 4, 10, 1, 1);
        Edge.says("3 FORM (of a LINK 7),");
        all(x, 3, 4, 0, 1, 3, 7, 7, 5, 1);
        Edge.says("4 whether it is AWAKE (1, 0),");
        all(x, 4, 1, 1, 1, 1, 0, 0, 1, 1);
        Edge.says("5 what it came to (0 .. 99 a number, 100 a PAIR, 101 LOOP, 102 WRONG;");
        all(x, 5, 100, 5, 10, 10, -9, -9, 102, 101);
        NeedOnce y = Due.with("l;p1n0;p1m22;p1m34;p1n3;p1n3");
        y.need(0);
        y.need(1);
        Edge.is("0", y.ofCell(0, 5), 0);
        Edge.is("81", y.ofCell(1, 5), 81);
        Edge.says("NONE: it is ASLEEP),");
        Edge.is("asleep", y.ofCell(4, 5), 3);
        y.sleep();
        for (int c = 0; c < 5; c++) Edge.is("asleep", y.ofCell(c, 5), -9);
        Edge.says("6 the CELL that it is a LINK to (NONE: it is none),");
        all(x, 6, -9, -9, -9, -9, 2, 1, -9, -9);
        Edge.is("need", x.need(4), 10);
        Edge.is("an awake link", x.ofCell(4, 6), 2);
        Edge.is("an awake link", x.ofCell(4, 3), 7);
        Edge.says("10 and k its PART k as told (a NUMBER's: what it is;");
        all(x, 10, 1, 5, 1, 1, 0, 0, 2, 7);
        Edge.says("NONE: it has not so many).");
        all(x, 11, 2, -9, 1, 2, -9, -9, -9, 7);
        all(x, 12, -9, -9, -9, 0, -9, -9, -9, -9);
        Edge.says("UNKNOWN;");
        for (int c : new int[] {-1, 5, 8, Integer.MIN_VALUE, Integer.MAX_VALUE}) {
            Edge.refused("cell " + c, -1, z -> z.ofCell(c, 0));
        }
        Edge.says("OUTSIDE: what (0 .. 6, 10 .. 12).");
        for (int what : new int[] {-1, 7, 8, 9, 13, Integer.MIN_VALUE, Integer.MAX_VALUE}) {
            Edge.refused("what " + what, -2, z -> z.ofCell(0, what));
        }
    }

    private static void all(NeedOnce x, int what, int... due) {
        for (int c = 0; c < due.length; c++) Edge.is("ofCell(" + c + ", " + what + ")", x.ofCell(c, what), due[c]);
    }

    private static void price() {
        Edge.promise(4);
        Edge.says("PRICE of a CELL becomes v (1 .. 9): what it was.");
        NeedOnce x = Due.with("l;p3n1;d2n5;w7n2");
        int[] was = {3, 2, 7};
        for (int c = 0; c < 3; c++) {
            for (int v = 1; v <= 9; v++) {
                Edge.is("price", x.price(c, v), v == 1 ? was[c] : v - 1);
                Edge.is("it is told", x.ofCell(c, 1), v);
            }
            Edge.is("the same again", x.price(c, 9), 9);
        }
        x.price(0, 4);
        x.need(0);
        Edge.is("it is paid", x.spent(), 4);
        x.price(0, 9);
        Edge.is("what was paid stays", x.spent(), 4);
        x.sleep();
        Edge.is("it stays, asleep", x.ofCell(0, 1), 9);
        Edge.says("UNKNOWN;");
        for (int c : new int[] {-1, 5, 8, Integer.MAX_VALUE}) Edge.refused("cell " + c, -1, y -> y.price(c, 5));
        Edge.says("OUTSIDE.");
        for (int v : new int[] {0, 10, -1, Integer.MIN_VALUE, Integer.MAX_VALUE}) {
            Edge.refused("price " + v, -2, y -> y.price(0, v));
        }
    }
}
