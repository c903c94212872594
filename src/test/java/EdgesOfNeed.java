/** Part 2 of the terms, and promises 5 to 12. */
final class EdgesOfNeed {
    private static final int PAIR = 100, LOOP = 101, WRONG = 102;
    private static final String DOUBLING = "l;p1a11;p1a22;p1a33;p1a44;p1a55;p1a66;p1a77;p1n1";

    private EdgesOfNeed() {
    }

    static void run() {
        Edge.part(2);
        awakeOrWorked();
        sums();
        choicesAndPairs();
        wrongAndLoop();
        keeps();
        spentDoneDeep();
        shortening();
        heldOf();
        plainlyOf();
        dayOf();
        need();
        latest();
        spentSleepShorten();
        held();
        plainly();
        day();
        dayRefusals();
    }

    private static NeedOnce comesTo(String text, int want) {
        NeedOnce x = Due.with(text);
        Edge.is("need 0 of " + text, x.need(0), want);
        Edge.is("it came to", x.ofCell(0, 5), want);
        return x;
    }

    /** Which CELLS are AWAKE, as a set. */
    private static int awake(NeedOnce x) {
        int set = 0;
        for (int c = 0; c < x.many(0); c++) set |= x.ofCell(c, 4) << c;
        return set;
    }

    private static void done(NeedOnce x, int... cells) {
        Edge.is("worked", x.latest(0), cells.length);
        for (int k = 0; k < 8; k++) Edge.is("done " + k, x.latest(10 + k), k < cells.length ? cells[k] : -9);
    }

    private static void awakeOrWorked() {
        Edge.says("A CELL that is NEEDED: is it AWAKE, it is what it came to;");
        NeedOnce x = Due.with("l;p1a11;p2m22;p3n7;p4t00;p5f2;p6a50");
        int[] due = {98, 49, 7, PAIR, WRONG, LOOP};
        for (int round = 0; round < 3; round++) {
            for (int c = 0; c < 6; c++) Edge.is("need " + c, x.need(c), due[c]);
        }
        Edge.is("it was worked once", x.spent(), 21);
        x.price(2, 9);
        x.need(2);
        Edge.is("nothing is worked", x.latest(0), 0);
        Edge.is("nothing is paid", x.spent(), 21);
        Edge.says("is it just being WORKED, it LOOPS (what it comes to is told at its end, as below).");
        comesTo("l;p1a00", LOOP);
        comesTo("l;p1m00", LOOP);
        comesTo("l;p1i000", LOOP);
        comesTo("l;p1f0", LOOP);
        comesTo("l;p1r0", LOOP);
        comesTo("l;p1t00", PAIR);
        x = Due.with("l;p1f1;p1t20;p1n5");
        Edge.is("one that only holds itself", x.need(0), 5);
        x = Due.with("l;p1r1;p1t20;p1n5");
        Edge.is("the part that is itself", x.need(0), LOOP);
        Edge.is("the pair is not of the loop", x.ofCell(1, 5), PAIR);
        x = Due.with("l;p1a11;p1a22;p1a33;p1a44;p1a55;p1a66;p1a77;p1a00");
        Edge.is("round all eight", x.need(3), LOOP);
        done(x, 2, 1, 0, 7, 6, 5, 4, 3);
        for (int c = 0; c < 8; c++) Edge.is("each at its end", x.ofCell(c, 5), LOOP);
    }

    private static void sums() {
        Edge.says("Else it is WORKED: a NUMBER comes to that.");
        for (int is = 0; is <= 9; is++) comesTo("l;p1n" + is, is);
        Edge.says("A SUM: its first PART is NEEDED, then its second one; both are numbers: it comes to these together,");
        done(comesTo("l;p1a12;p1n4;p1n5", 9), 1, 2, 0);
        done(comesTo("l;p1a21;p1n4;p1n5", 9), 2, 1, 0);
        done(comesTo("l;p1a11;p1n4", 8), 1, 0);
        comesTo("l;p1a11;p1n0", 0);
        comesTo("l;p1a12;p1n0;p1n9", 9);
        Edge.says("less 100 as often as there is still 100 or more;");
        // 99 is 9 times 11, 11 is 9 and 2.
        comesTo("l;p1a12;p1m34;p1n0;p1n9;p1a35;p1n2", 99);
        comesTo("l;p1a12;p1m34;p1n1;p1n9;p1a35;p1n2", 0);
        comesTo("l;p1a12;p1m34;p1n2;p1n9;p1a35;p1n2", 1);
        comesTo("l;p1a11;p1m34;p1n2;p1n9;p1a35;p1n2", 98);
        comesTo("l;p1m12;p1m34;p1n1;p1n9;p1a35;p1n2", 99);
        comesTo("l;p1m12;p1m34;p1n2;p1n9;p1a35;p1n2", 98);
        comesTo("l;p1m11;p1m34;p1n2;p1n9;p1a35;p1n2", 1);
        comesTo("l;p1m11;p1a22;p1n5", 0);
        comesTo("l;p1m12;p1a33;p1m43;p1n5;p1n4", 0);
        Edge.says("a PRODUCT likewise by their product.");
        done(comesTo("l;p1m12;p1n4;p1n5", 20), 1, 2, 0);
        done(comesTo("l;p1m21;p1n4;p1n5", 20), 2, 1, 0);
        comesTo("l;p1m11;p1n9", 81);
        comesTo("l;p1m12;p1n0;p1n9", 0);
        done(comesTo("l;p1m12;p1n0;p1n9", 0), 1, 2, 0);
        comesTo("l;p1m12;p1n1;p1n9", 9);
    }

    private static void choicesAndPairs() {
        Edge.says("A CHOICE: its first PART is NEEDED; that is a number: not 0: its second PART is NEEDED, 0: its third one is; it comes to what that does.");
        for (int by = 0; by <= 9; by++) {
            NeedOnce x = comesTo("l;p1i123;p1n" + by + ";p1n5;p1n6", by == 0 ? 6 : 5);
            done(x, 1, by == 0 ? 3 : 2, 0);
        }
        // 10 times 10 is 0 by then.
        comesTo("l;p1i123;p1m44;p1n5;p1n6;p1a55;p1n5", 6);
        comesTo("l;p1i122;p1n1;p1t00", PAIR);
        comesTo("l;p1i122;p1n1;p1f1", WRONG);
        comesTo("l;p1i102;p1n0;p1n3", 3);
        comesTo("l;p1i102;p1n1;p1n3", LOOP);
        comesTo("l;p1i111;p1n8", 8);
        Edge.says("A PAIR comes to a PAIR (its PARTS are not NEEDED).");
        done(comesTo("l;p1t12;p1n4;p1n5", PAIR), 0);
        done(comesTo("l;p1t00", PAIR), 0);
        done(comesTo("l;p1t11;p1a11", PAIR), 0);
        Edge.says("A FIRST: its PART is NEEDED; that is a PAIR: the first PART of that PAIR is NEEDED; it comes to what that does;");
        done(comesTo("l;p1f1;p1t23;p1n4;p1n5", 4), 1, 2, 0);
        done(comesTo("l;p1f1;p1t23;p1t00;p1n5", PAIR), 1, 2, 0);
        comesTo("l;p1f1;p1t23;p1f3;p1n5", WRONG);
        comesTo("l;p1f1;p1t23;p1a22;p1n5", LOOP);
        Edge.says("a REST likewise by the second PART.");
        done(comesTo("l;p1r1;p1t23;p1n4;p1n5", 5), 1, 3, 0);
        done(comesTo("l;p1r1;p1t32;p1t00;p1n5", PAIR), 1, 2, 0);
        comesTo("l;p1r1;p1t32;p1f3;p1n5", WRONG);
        comesTo("l;p1r1;p1t32;p1a22;p1n5", LOOP);
    }

    private static void wrongAndLoop() {
        Edge.says("Where a number is wanted and a PAIR is come to, or the other way about, it comes to WRONG.");
        done(comesTo("l;p1a12;p1t00;p1n5", WRONG), 1, 0);
        done(comesTo("l;p1a12;p1n5;p1t00", WRONG), 1, 2, 0);
        done(comesTo("l;p1m12;p1t00;p1n5", WRONG), 1, 0);
        done(comesTo("l;p1m12;p1n5;p1t00", WRONG), 1, 2, 0);
        done(comesTo("l;p1m12;p1n0;p1t00", WRONG), 1, 2, 0);
        done(comesTo("l;p1i122;p1t00;p1n5", WRONG), 1, 0);
        done(comesTo("l;p1f1;p1n0", WRONG), 1, 0);
        done(comesTo("l;p1f1;p1n9", WRONG), 1, 0);
        done(comesTo("l;p1r1;p1n9", WRONG), 1, 0);
        done(comesTo("l;p1f1;p1m22;p1n9", WRONG), 2, 1, 0);
        Edge.says("As soon as any PART that is NEEDED LOOPS or comes to LOOP, it comes to LOOP;");
        comesTo("l;p1a01;p1f2;p1n1", LOOP);
        comesTo("l;p1a12;p1n1;p1a22", LOOP);
        comesTo("l;p1m12;p1n0;p1a22", LOOP);
        comesTo("l;p1m10;p1n0", LOOP);
        comesTo("l;p1i122;p1a11;p1n1", LOOP);
        comesTo("l;p1i121;p1n1;p1a22", LOOP);
        comesTo("l;p1i112;p1n0;p1a22", LOOP);
        comesTo("l;p1f1;p1f1", LOOP);
        comesTo("l;p1r1;p1f0", LOOP);
        NeedOnce x = Due.with("l;p1a12;p1f1;p1f3;p1n1");
        x.need(1);
        Edge.is("one that came to loop ahead", x.need(0), LOOP);
        Edge.says("as soon as any comes to WRONG, to WRONG;");
        comesTo("l;p1a12;p1f3;p1a22;p1n1", WRONG);
        comesTo("l;p1a12;p1a11;p1f3;p1n1", LOOP);
        comesTo("l;p1a12;p1n1;p1f1", WRONG);
        comesTo("l;p1m12;p1n0;p1f1", WRONG);
        comesTo("l;p1i122;p1f2;p1n1", WRONG);
        comesTo("l;p1i121;p1n1;p1f1", WRONG);
        comesTo("l;p1f1;p1f2;p1n1", WRONG);
        comesTo("l;p1r1;p1r2;p1n1", WRONG);
        Edge.says("nothing more is NEEDED by it then.");
        done(comesTo("l;p1a12;p1f3;p1n5;p1n1", WRONG), 3, 1, 0);
        done(comesTo("l;p1m12;p1f3;p1n5;p1n1", WRONG), 3, 1, 0);
        done(comesTo("l;p1i122;p1f3;p1n5;p1n1", WRONG), 3, 1, 0);
        done(comesTo("l;p1a02;p1n5;p1n6", LOOP), 0);
        done(comesTo("l;p1m12;p1f1;p1n6", LOOP), 1, 0);
        done(comesTo("l;p1i022;p1n5;p1n6", LOOP), 0);
        done(comesTo("l;p1f1;p1f1;p1n6", LOOP), 1, 0);
        done(comesTo("l;p1a12;p1t22;p1n6", WRONG), 1, 0);
    }

    private static void keeps() {
        Edge.says("What it comes to it keeps: it is AWAKE then.");
        NeedOnce x = Due.with("l;p1a12;p1f3;p1t00;p1n4;p1a44");
        x.need(0);
        x.need(2);
        x.need(4);
        int[] due = {WRONG, WRONG, PAIR, 4, LOOP};
        for (int c = 0; c < 5; c++) {
            Edge.is("awake", x.ofCell(c, 4), 1);
            Edge.is("it keeps", x.ofCell(c, 5), due[c]);
        }
        Edge.is("how many", x.many(1), 5);
        x = Due.with("l;p1i123;p1n0;p1n5;p1n6");
        x.need(0);
        Edge.is("one not needed sleeps on", awake(x), 1 + 2 + 8);
        Edge.says("One that comes to a PAIR by a CHOICE, FIRST, REST is that very PAIR, with its PARTS.");
        // CELLS 1, 2, 3 come to PAIR 4 by a CHOICE, a FIRST, a REST; its PARTS are 5 and 6.
        String pairs = ";p1i544;p1f7;p1r7;p1t56;p1n3;p1n8;p1t44";
        for (int of = 1; of <= 3; of++) {
            comesTo("l;p1f" + of + pairs, 3);
            comesTo("l;p1r" + of + pairs, 8);
            x = Due.with("l;p1f" + of + pairs);
            x.need(of);
            Edge.is("it holds that pair's parts", x.held(1 << of), (1 << of) + 32 + 64);
            Edge.is("a link to that pair's part", x.shorten() > 0 ? x.ofCell(0, 6) : -1, 5);
        }
        // A PAIR through all three, one behind another.
        comesTo("l;p1r1;p1i522;p1f3;p1t44;p1t56;p1n2;p1n7", 7);
    }

    private static void spentDoneDeep() {
        Edge.says("SPENT is COST of all that was WORKED.");
        NeedOnce x = comesTo("l;p9a12;d9m33;w9n4;p1n5", 29);
        Edge.is("spent", x.spent(), 9 + 10 + 18 + 1);
        x = comesTo("l;p9a02;d9m33;w9n4;p1n5", LOOP);
        Edge.is("spent for a loop", x.spent(), 9);
        x = comesTo("l;p9f1;d9n3", WRONG);
        Edge.is("spent for what is wrong", x.spent(), 19);
        x = comesTo("l;p1a11;p5n2", 4);
        Edge.is("once for both parts", x.spent(), 6);
        x.sleep();
        x.need(0);
        Edge.is("once more behind sleep", x.spent(), 12);
        x = Due.with("l;w9a11;w9a22;w9a33;w9a44;w9a55;w9a66;w9a77;w9n1");
        x.need(0);
        Edge.is("the most", x.spent(), 144);
        Edge.says("A CELL is DONE when it is AWAKE;");
        done(comesTo("l;p1a12;p1a33;p1a34;p1n5;p1n6", 21), 3, 1, 4, 2, 0);
        done(comesTo("l;p1i123;p1n0;p1n5;p1t00", PAIR), 1, 3, 0);
        Edge.says("DEEP is how many were being WORKED at one time.");
        Edge.is("one", comesTo("l;p1n5", 5).latest(1), 1);
        Edge.is("a pair", comesTo("l;p1t00", PAIR).latest(1), 1);
        Edge.is("side by side", comesTo("l;p1a12;p1n5;p1n5", 10).latest(1), 2);
        Edge.is("the deeper one behind", comesTo("l;p1a12;p1n5;p1a11", 15).latest(1), 2);
        Edge.is("the deeper one ahead", comesTo("l;p1a12;p1a33;p1n5;p1n4", 13).latest(1), 3);
        Edge.is("the deeper one last", comesTo("l;p1a12;p1n5;p1a33;p1n4", 13).latest(1), 3);
        Edge.is("of a pair's part", comesTo("l;p1f1;p1t22;p1n5", 5).latest(1), 2);
        Edge.is("of a pair's part", comesTo("l;p1r1;p1t22;p1a33;p1n5", 10).latest(1), 3);
        Edge.is("of a choice's part", comesTo("l;p1i122;p1n3;p1a33;p1n5", 10).latest(1), 3);
        Edge.is("of a choice's first part", comesTo("l;p1i122;p1a33;p1n5;p1n1", 5).latest(1), 3);
        Edge.is("of a choice's first part, no deeper", comesTo("l;p1i122;p1n1;p1n5", 5).latest(1), 2);
        Edge.is("of a first's part", comesTo("l;p1f1;p1f2;p1t33;p1t44;p1n5", 5).latest(1), 3);
        Edge.is("of a rest's part", comesTo("l;p1r1;p1i322;p1t33;p1n5", 5).latest(1), 3);
        Edge.is("of a product's parts", comesTo("l;p1m12;p1n5;p1m33;p1n2", 20).latest(1), 3);
        Edge.is("of a loop", comesTo("l;p1a00", LOOP).latest(1), 1);
        Edge.is("all eight", comesTo(DOUBLING, 28).latest(1), 8);
    }

    private static void shortening() {
        Edge.says("SHORTENING: as long as there is such a one, the least CELL that is a FIRST or REST, ASLEEP, and whose PART is AWAKE and came to a PAIR becomes a LINK (FORM 7) to that PART of this PAIR:");
        NeedOnce x = Due.with("l;p1f2;p1r2;p1t34;p1n5;p1n6;p1f4;p1f3;p1i222");
        Edge.is("none is awake", x.shorten(), 0);
        x.need(4);
        Edge.is("a number is no pair", x.shorten(), 0);
        x.need(2);
        Edge.is("the first cells", x.shorten(), 2);
        int[] forms = {7, 7, 4, 0, 0, 5, 5, 3};
        int[] links = {3, 4, -9, -9, -9, -9, -9, -9};
        for (int c = 0; c < 8; c++) {
            Edge.is("form of " + c, x.ofCell(c, 3), forms[c]);
            Edge.is("link of " + c, x.ofCell(c, 6), links[c]);
        }
        Edge.is("none is left", x.shorten(), 0);
        x = Due.with("l;p1t12;p1n5;p1n6;p1f0;p1r0;p1f0;p1r0;p1f0");
        x.need(3);
        Edge.is("all but one that is awake, to the last", x.shorten(), 4);
        x = Due.with("l;p1a00;p1f0;p1f3;p1f4;p1n1");
        x.need(0);
        x.need(3);
        Edge.is("parts that came to loop and to wrong", x.shorten(), 0);
        x = Due.with("l;p1t12;p1t00;p1n6;p1f0;p1r3;p1f3");
        x.need(0);
        Edge.is("a link's own first sleeps", x.shorten(), 1);
        x.need(3);
        Edge.is("of an awake link with a pair", x.shorten(), 2);
        Edge.is("to a part of that very pair", x.ofCell(4, 6), 0);
        Edge.is("to a part of that very pair", x.ofCell(5, 6), 0);
        x = Due.with("l;p1t11;p1f0");
        x.need(0);
        Edge.is("one to itself", x.shorten(), 1);
        Edge.is("one to itself", x.ofCell(1, 6), 1);
        Edge.says("one that is NEEDED needs that CELL, and comes to what it does;");
        Edge.is("a link to itself", x.need(1), LOOP);
        int[] due = {5, 98, PAIR, LOOP, WRONG};
        String[] parts = {"n5", "a33", "t11", "a22", "f3"};
        for (int k = 0; k < 5; k++) {
            x = Due.with("l;p1t22;p1f0;p1" + parts[k] + ";p1m44;p1n7");
            x.need(0);
            x.shorten();
            Edge.is("a link to " + parts[k], x.need(1), due[k]);
            Edge.is("that cell was needed", x.ofCell(2, 5), due[k]);
            Edge.is("it is awake", x.ofCell(1, 5), due[k]);
        }
        Edge.says("it is WORKED (and counted among those), but nothing is SPENT for it;");
        x = Due.with("l;p3t22;w9f0;d5n7");
        x.need(0);
        x.shorten();
        x.need(1);
        done(x, 2, 1);
        Edge.is("deep", x.latest(1), 2);
        Edge.is("cost", x.latest(2), 6);
        Edge.is("spent", x.spent(), 9);
        Edge.says("its COST is told as that of the CELL it was.");
        Edge.is("cost", x.ofCell(1, 2), 18);
        x.price(1, 4);
        Edge.is("cost", x.ofCell(1, 2), 8);
        Edge.says("A LINK that is put to SLEEP is what it was told;");
        Edge.is("a link", x.ofCell(1, 3), 7);
        x.sleep();
        Edge.is("form", x.ofCell(1, 3), 5);
        Edge.is("link", x.ofCell(1, 6), -9);
        Edge.is("part", x.ofCell(1, 10), 0);
        Edge.is("need", x.need(1), 7);
        done(x, 0, 2, 1);
        Edge.is("it is paid again", x.latest(2), 3 + 6 + 8);
        Edge.says("one that is AWAKE is still a LINK.");
        x = Due.with("l;p3t22;w9f0;d5n7");
        x.need(0);
        x.shorten();
        x.need(1);
        Edge.is("form", x.ofCell(1, 3), 7);
        Edge.is("link", x.ofCell(1, 6), 2);
        Edge.is("links", x.many(2), 1);
        Edge.is("not once more", x.shorten(), 0);
    }

    private static void heldOf() {
        Edge.says("HELD by a set of CELLS: these,");
        NeedOnce x = Due.with("l;p1n1;p1n2;p1n3;p1n4;p1n5;p1n6;p1n7;p1n8");
        for (int set = 0; set <= 255; set += 17) Edge.is("numbers " + set, x.held(set), set);
        x.need(3);
        Edge.is("awake ones", x.held(8), 8);
        Edge.says("and with each CELL: of one ASLEEP its PARTS,");
        x = Due.with("l;p1a12;p1n0;p1m34;p1n3;p1i567;p1f6;p1r7;p1t11");
        int[] due = {255, 2, 254, 8, 242, 226, 194, 130};
        for (int c = 0; c < 8; c++) Edge.is("by " + c, x.held(1 << c), due[c]);
        x = Due.with("l;p1a11;p1a00");
        Edge.is("round and round", x.held(2), 3);
        x = Due.with("l;p1n1;p1n1;p1f0;p1i110");
        Edge.is("the third part, too", x.held(8), 8 + 2 + 1);
        x = Due.with("l;p1t12;p1n7;p1n1");
        Edge.is("a number's digit is no part", x.held(2), 2);
        Edge.says("those of a LINK: what it is a LINK to;");
        x = Due.with("l;p1t12;p1n7;p1a33;p1n4;p1f0;p1r0");
        x.need(0);
        Edge.is("no link yet", x.held(16), 16 + 1 + 2 + 4 + 8);
        x.shorten();
        Edge.is("the first", x.held(16), 16 + 2);
        Edge.is("the second, and what that holds", x.held(32), 32 + 4 + 8);
        Edge.says("of one that came to a PAIR the PARTS of that PAIR.");
        x = Due.with("l;p1i123;p1n1;p1t45;p1n4;p1n5;p1a33;p1f7;p1t22");
        Edge.is("asleep", x.held(1), 1 + 2 + 4 + 8 + 16 + 32);
        x.need(0);
        Edge.is("a choice", x.held(1), 1 + 16 + 32 + 8);
        Edge.is("the pair itself", x.held(4), 4 + 16 + 32 + 8);
        x.need(6);
        Edge.is("a first", x.held(64), 64 + 16 + 32 + 8);
        x.need(5);
        Edge.is("one that came to a number holds none", x.held(32), 32);
        Edge.is("nor through others", x.held(1), 1 + 16 + 32);
        x = Due.with("l;p1f1;p1n2;p1a22");
        x.need(0);
        x.need(2);
        Edge.is("one that is wrong holds none", x.held(1), 1);
        Edge.is("one that loops holds but itself", x.held(4), 4);
        x = Due.with("l;p1t12;p1t33;p1n7;p1n4;p1f0");
        x.need(0);
        x.shorten();
        x.need(4);
        Edge.is("an awake link", x.held(16), 16 + 8);
    }

    private static int plainlyOf(String text) {
        return Due.with(text).plainly(0);
    }

    private static void plainlyOf() {
        Edge.says("PLAINLY: from all CELLS ASLEEP as told (no LINKS), if nothing were kept: how many times any is WORKED, each time that it is NEEDED;");
        Edge.is("a number", plainlyOf("l;p1n5"), 1);
        Edge.is("a pair", plainlyOf("l;p1t11;p1n5"), 1);
        Edge.is("twice the same", plainlyOf("l;p1a11;p1n5"), 3);
        Edge.is("twice twice", plainlyOf("l;p1a11;p1m22;p1n5"), 7);
        Edge.is("a choice", plainlyOf("l;p1i112;p1n1;p1a11"), 3);
        Edge.is("the other choice", plainlyOf("l;p1i112;p1n0;p1a11"), 5);
        Edge.is("a first", plainlyOf("l;p1f1;p1t23;p1a33;p1n1"), 5);
        Edge.is("a rest", plainlyOf("l;p1r1;p1t23;p1a33;p1n1"), 3);
        Edge.is("what is wrong ends there", plainlyOf("l;p1a12;p1f2;p1n1"), 3);
        Edge.is("a pair for a number ends there", plainlyOf("l;p1a12;p1t00;p1n1"), 2);
        Edge.is("the most that eight can do", plainlyOf(DOUBLING), 255);
        NeedOnce x = Due.with("l;p1a33;p1t22;p1n5;p1f1");
        x.need(1);
        x.shorten();
        x.need(3);
        Edge.is("all asleep, no links", x.plainly(0), 7);
        Edge.is("of one awake", x.plainly(3), 3);
        Edge.says("NONE: it is more than 999 times (or it would never end).");
        Edge.is("itself", plainlyOf("l;p1a00"), -9);
        Edge.is("behind another", plainlyOf("l;p1a12;p1n5;p1a00"), -9);
        Edge.is("in a choice", plainlyOf("l;p1i102;p1n1;p1n1"), -9);
        Edge.is("not in a choice", plainlyOf("l;p1i120;p1n1;p1n1"), 3);
        Edge.is("by its pair", plainlyOf("l;p1r1;p1t20;p1n1"), -9);
        Edge.is("not by its pair", plainlyOf("l;p1f1;p1t20;p1n1"), 3);
        Edge.is("not behind what is wrong", plainlyOf("l;p1a10;p1t00"), 2);
        x = Due.with("l;p1a10;p1n5");
        x.need(0);
        Edge.is("of one that is awake with loop", x.plainly(0), -9);
    }

    private static void dayOf() {
        Edge.says("A DAY told: a row of pairs, one behind another, from how all is now (nothing is changed):");
        Edge.looksAndNoFault("awake now", 7, x -> x.day(1, 0, 0, 1, 0));
        Edge.looksAndNoFault("two acts", 7, x -> x.day(1, 0, 0, 2, 0));
        NeedOnce x = Edge.used();
        String before = Edge.state(x);
        Edge.is("all acts", Due.day(x, 0, 9, 12, 0, 21, 0, 2, 0, 0, 0, 20, 0, 4), 7 + 18 + 3 + 3);
        Edge.is("links", x.day(3, 1, 0, 6, 3), 2);
        x.lose(3);
        Edge.is("nothing is changed", before.equals(Edge.state(x)) ? 1 : 0, 1);
        Edge.is("one behind another", Due.day(x, 0, 0, 21, 0, 1), 10);
        Edge.is("one behind another", Due.day(x, 0, 0, 1, 0, 21), 7);
        x = Due.with("l;p1t12;p1n5;p1i100;p1r0;p1f2");
        x.need(0);
        x.need(2);
        Edge.is("a part of a pair that is awake", Due.day(x, 13, 0, 3), PAIR);
        Edge.is("a part of one that is awake by a choice", Due.day(x, 14, 0, 4), 5);
        Edge.is("links by pairs that are awake", Due.day(x, 3, 0, 20), 2);
        Edge.is("held by a link", Due.day(x, 4, 0, 20), 16 + 2);
        Edge.says("0 and 0 .. 7: that CELL is NEEDED;");
        x = Due.with("l;p1n0;p2n1;p3n2;p4n3;p5n4;p6n5;p7n6;p8n7");
        for (int c = 0; c < 8; c++) {
            Edge.is("need " + c, Due.day(x, 10 + c, 0, c), c);
            Edge.is("spent for " + c, x.day(3, 1, 0, 1, 0), c + 1);
        }
        Edge.says("a PRICE (1 .. 9) and 10 .. 17: that of the CELL that is 10 less;");
        for (int c = 0; c < 8; c++) {
            int price = c == 7 ? 1 : 9;
            Edge.is("price of " + c, Due.day(x, 0, price, 10 + c, 0, c), price);
        }
        Edge.says("0 and 20: SHORTENING;");
        x = Due.with("l;p1t11;p2n5;p4f0;p8r0");
        Edge.is("of none", Due.day(x, 3, 0, 20), 0);
        Edge.is("of two", Due.day(x, 3, 0, 0, 0, 20), 2);
        Edge.is("nothing is spent", Due.day(x, 0, 0, 0, 0, 20, 0, 3), 3);
        Edge.is("it is as told without", Due.day(x, 0, 0, 0, 0, 3), 11);
        Edge.says("0 and 21: all are put to SLEEP.");
        x.need(3);
        x.shorten();
        Edge.is("awake", Due.day(x, 2, 0, 21), 0);
        Edge.is("links", Due.day(x, 3, 0, 21), 0);
        Edge.is("spent stays", Due.day(x, 0, 0, 21), 11);
        Edge.is("and goes on", Due.day(x, 0, 0, 21, 0, 2), 18);
        Edge.says("FIRST WRONG: the first act that can't be (there is no such CELL;");
        x = Due.with("l;p1n1;p1n2;p1f0;p1a33");
        Edge.is("need", Due.day(x, 1, 0, 4), 0);
        Edge.is("need", Due.day(x, 1, 0, 0, 0, 7), 1);
        Edge.is("price", Due.day(x, 1, 5, 13, 5, 14), 1);
        Edge.is("price", Due.day(x, 1, 5, 17), 0);
        Edge.is("the last there is", Due.day(x, 1, 5, 13, 0, 1), -9);
        Edge.is("the first of several", Due.day(x, 1, 0, 20, 0, 5, 0, 4, 0, 2), 1);
        Edge.says("one that is NEEDED is not AWAKE with a number or a PAIR then).");
        Edge.is("wrong", Due.day(x, 1, 0, 0, 0, 2), 1);
        Edge.is("loop", Due.day(x, 1, 0, 3), 0);
        x.need(2);
        x.need(3);
        Edge.is("wrong ahead", Due.day(x, 1, 0, 2), 0);
        Edge.is("loop ahead", Due.day(x, 1, 0, 1, 0, 3), 1);
        Edge.is("a wrong one that is not needed", Due.day(x, 1, 0, 1, 5, 12, 0, 20, 0, 21), -9);
        x = Due.with("l;p1t00;p1m22;p1m33;p1n3");
        Edge.is("a pair", Due.day(x, 1, 0, 0), -9);
        Edge.is("a number", Due.day(x, 1, 0, 1), -9);
        Edge.is("one that comes to 99", Due.day(Due.with("l;p1m12;p1n9;p1a13;p1n2"), 1, 0, 0), -9);
    }

    private static void need() {
        Edge.promise(5);
        Edge.says("A CELL is NEEDED: what it comes to (as ofCell() 5).");
        NeedOnce x = Due.with("l;p1n0;p1m22;p1n9;p1t00;p1a44;p1f0;p1m16;p1a22");
        int[] due = {0, 81, 9, PAIR, LOOP, WRONG, LOOP, 18};
        for (int c = 0; c < 8; c++) {
            Edge.is("need " + c, x.need(c), due[c]);
            Edge.is("as ofCell() 5", x.ofCell(c, 5), due[c]);
        }
        Edge.says("UNKNOWN.");
        for (int c : new int[] {-1, 5, 8, Integer.MIN_VALUE, Integer.MAX_VALUE}) Edge.refused("cell " + c, -1, y -> y.need(c));
        Edge.is("without cells", new NeedOnce().need(0), -1);
    }

    private static void latest() {
        Edge.promise(6);
        Edge.says("Of the latest CELL that was NEEDED by need() (since the TEXT):");
        NeedOnce x = Due.with("l;p3a12;d2m33;w7f4;p1n5;p9t33");
        x.need(1);
        done(x, 3, 1);
        x.need(0);
        done(x, 4, 2, 0);
        x.need(0);
        done(x);
        x.sleep();
        x.need(2);
        done(x, 4, 3, 2);
        x.sleep();
        x.shorten();
        x.price(4, 1);
        x.need(5);
        Due.day(x, 0, 0, 0);
        x.plainly(0);
        x.reading(0, 5);
        x.kinds(0);
        x.prices(0);
        x.odds(0, 3, 5, 0);
        done(x, 4, 3, 2);
        Edge.is("deep stays", x.latest(1), 2);
        Edge.is("cost stays", x.latest(2), 24);
        Due.heap(x, "l;p3a12;d2m33;w7f9");
        Due.heap(x, "l;p3a12;d2m33;w7f4");
        done(x, 4, 3, 2);
        Edge.is("heap", Due.heap(x, "l;p1n1"), 1);
        done(x);
        for (int what = 0; what < 3; what++) Edge.is("since the text", x.latest(what), 0);
        Edge.says("0 how many were WORKED,");
        x = Due.with(DOUBLING);
        for (int c = 7; c >= 0; c--) {
            x.sleep();
            x.need(c);
            Edge.is("worked for " + c, x.latest(0), 8 - c);
        }
        x.need(0);
        Edge.is("none for one awake", x.latest(0), 0);
        Edge.says("1 DEEP,");
        for (int c = 7; c >= 0; c--) {
            x.sleep();
            x.need(c);
            Edge.is("deep for " + c, x.latest(1), 8 - c);
        }
        x.need(0);
        Edge.is("none for one awake", x.latest(1), 0);
        Edge.says("2 COST of them,");
        x = Due.with("l;p3a11;d4n5;w5t00;p9f2");
        x.need(0);
        Edge.is("plain and dear", x.latest(2), 8);
        x.need(2);
        Edge.is("double", x.latest(2), 10);
        x.need(0);
        Edge.is("none for one awake", x.latest(2), 0);
        Edge.is("all of it is spent", x.spent(), 18);
        Edge.says("10 and k the CELL that was DONE k-th (from 0 on;");
        x = Due.with(DOUBLING);
        x.need(0);
        done(x, 7, 6, 5, 4, 3, 2, 1, 0);
        Edge.says("NONE: there were not so many);");
        x.sleep();
        x.need(7);
        Edge.is("one", x.latest(10), 7);
        for (int k = 1; k < 8; k++) Edge.is("not so many", x.latest(10 + k), -9);
        Edge.says("0 (10 and k: NONE) ahead of any.");
        for (NeedOnce y : new NeedOnce[] {new NeedOnce(), Due.with("l;p1n5")}) {
            for (int what = 0; what < 3; what++) Edge.is("ahead", y.latest(what), 0);
            for (int k = 0; k < 8; k++) Edge.is("ahead", y.latest(10 + k), -9);
        }
        Edge.says("OUTSIDE: what (0 .. 2, 10 .. 17).");
        for (int what : new int[] {-1, 3, 9, 18, Integer.MIN_VALUE, Integer.MAX_VALUE}) {
            Edge.refused("what " + what, -2, y -> y.latest(what));
        }
    }

    private static void spentSleepShorten() {
        Edge.promise(7);
        Edge.says("SPENT.");
        Edge.is("without cells", new NeedOnce().spent(), 0);
        NeedOnce x = Due.with("l;p3a11;d4n5");
        Edge.is("nothing yet", x.spent(), 0);
        x.need(1);
        x.need(0);
        x.need(0);
        Edge.is("all of it", x.spent(), 8);
        Edge.promise(8);
        Edge.says("All CELLS are put to SLEEP,");
        x.sleep();
        for (int c = 0; c < 2; c++) {
            Edge.is("asleep", x.ofCell(c, 4), 0);
            Edge.is("asleep", x.ofCell(c, 5), -9);
        }
        Edge.is("asleep", x.many(1), 0);
        Edge.is("worked anew", x.need(0), 10);
        Edge.is("worked anew", x.spent(), 16);
        Edge.says("no one is a LINK:");
        x = Edge.used();
        Edge.is("a link", x.many(2), 1);
        x.sleep();
        Edge.is("no link", x.many(2), 0);
        for (int c = 0; c < 5; c++) Edge.is("no link", x.ofCell(c, 6), -9);
        Edge.is("as told", x.ofCell(4, 3), 6);
        Edge.is("none to shorten", x.shorten(), 0);
        Edge.says("how many were AWAKE.");
        x = Due.with(DOUBLING);
        Edge.is("none", x.sleep(), 0);
        for (int c = 0; c < 8; c++) {
            x.need(c);
            Edge.is("awake", x.sleep(), 8 - c);
        }
        Edge.is("none again", x.sleep(), 0);
        x = Edge.used();
        Edge.is("an asleep link is not awake", x.sleep(), 3);
        Edge.is("without cells", new NeedOnce().sleep(), 0);
        x = Due.with("l;p1f1;p1n1;p1a22");
        x.need(0);
        x.need(2);
        Edge.is("wrong and loop are awake", x.sleep(), 3);
        Edge.promise(9);
        Edge.says("SHORTENING: how many CELLS became LINKS.");
        x = Due.with("l;p1t77;p1f0;p1r0;p1f0;p1r0;p1f0;p1r0;p1f0");
        Edge.is("none", x.shorten(), 0);
        x.need(0);
        Edge.is("the most", x.shorten(), 7);
        Edge.is("no more", x.shorten(), 0);
        Edge.is("links", x.many(2), 7);
        Edge.is("awake", x.many(1), 1);
        Edge.is("nothing is spent", x.spent(), 1);
        Edge.is("without cells", new NeedOnce().shorten(), 0);
    }

    private static void held() {
        Edge.promise(10);
        Edge.says("HELD by a set of CELLS (0 .. 255;");
        NeedOnce x = Due.with("l;p1n1;p1n2;p1n3;p1n4;p1n5;p1n6;p1n7;p1f0");
        Edge.is("0", x.held(0), 0);
        Edge.is("255", x.held(255), 255);
        Edge.is("1", x.held(1), 1);
        Edge.is("128", x.held(128), 129);
        Edge.says("CELLS there are not are not looked at),");
        x = Due.with("l;p1n1;p1a00;p1n3");
        Edge.is("all others", x.held(248), 0);
        Edge.is("some others", x.held(255), 7);
        Edge.is("just the next", x.held(8), 0);
        Edge.is("the last", x.held(4 + 8), 4);
        Edge.is("without cells", new NeedOnce().held(255), 0);
        Edge.says("as a set.");
        Edge.is("a set", x.held(2), 1 + 2);
        Edge.says("OUTSIDE.");
        for (int set : new int[] {-1, 256, Integer.MIN_VALUE, Integer.MAX_VALUE}) {
            Edge.refused("set " + set, -2, y -> y.held(set));
            Edge.is("without cells", new NeedOnce().held(set), -2);
        }
    }

    private static void plainly() {
        Edge.promise(11);
        Edge.says("PLAINLY of a CELL;");
        NeedOnce x = Due.with(DOUBLING);
        for (int c = 0; c < 8; c++) Edge.is("plainly " + c, x.plainly(c), (1 << (8 - c)) - 1);
        Edge.is("nothing is worked by it", x.many(1), 0);
        Edge.is("nothing is spent by it", x.spent(), 0);
        Edge.looks("of used cells", 3, y -> y.plainly(3));
        Edge.is("a day keeps what it worked behind it", Due.day(x, 2, 0, 0), 8);
        x.plainly(0);
        x.reading(0, 8);
        Edge.is("readings are of what is kept behind it", x.kinds(0), 1);
        Edge.says("NONE.");
        Edge.is("never ends", Due.with("l;p1f0").plainly(0), -9);
        Edge.is("never ends", Due.with("l;p1f1;p1t00").plainly(0), -9);
        Edge.is("ends", Due.with("l;p1f1;p1t00").plainly(1), 1);
        Edge.says("UNKNOWN.");
        for (int c : new int[] {-1, 5, 8, Integer.MIN_VALUE, Integer.MAX_VALUE}) Edge.refused("cell " + c, -1, y -> y.plainly(c));
    }

    private static void day() {
        Edge.promise(12);
        Edge.says("A DAY of n pairs, that are cells of a SHEET from i on (2 n):");
        NeedOnce x = Due.with("l;p1n1;p2n2;p4n3");
        Due.row(x, 1, 0, 9, 0, 0, 0, 1, 0, 2, 9);
        Edge.is("none", x.day(1, 0, 1, 0, 0), 0);
        Edge.is("one", x.day(1, 0, 1, 1, 0), 1);
        Edge.is("two", x.day(1, 0, 1, 2, 0), 3);
        Edge.is("three", x.day(1, 0, 1, 3, 0), 7);
        Edge.is("from the third on", x.day(1, 0, 3, 2, 0), 6);
        Edge.is("beyond", x.day(1, 0, 1, 4, 0), -13);
        Edge.says("SPENT then (what 0),");
        x = Due.with("l;p3t12;d2n5;w7a11;p1f0;p4r0;p1a55");
        x.need(1);
        int[] acts = {0, 0, 9, 12, 0, 20, 0, 4};
        Edge.is("what was spent, too", Due.day(x, 0, acts), 3 + 3 + 18);
        Edge.is("no acts", Due.day(x, 0), 3);
        Edge.says("its FIRST WRONG (1;");
        Edge.is("the first act", Due.day(x, 1, 0, 5), 0);
        int[] late = new int[40];
        for (int k = 1; k < 39; k += 2) late[k] = 20;
        late[39] = 5;
        Edge.is("the last of twenty", Due.day(x, 1, late), 19);
        Edge.says("NONE),");
        Edge.is("no wrong one", Due.day(x, 1, acts), -9);
        Edge.is("no acts", Due.day(x, 1), -9);
        Edge.says("how many CELLS are AWAKE then (2),");
        Edge.is("awake", Due.day(x, 2, acts), 4);
        Edge.is("no acts", Due.day(x, 2), 1);
        Edge.is("asleep", Due.day(x, 2, 0, 21), 0);
        Edge.says("how many are LINKS then (3),");
        Edge.is("links", Due.day(x, 3, acts), 2);
        Edge.is("no acts", Due.day(x, 3), 0);
        Edge.says("HELD by the last CELL then (4),");
        NeedOnce y = Due.with("l;p1n5;p1t02;p1n6;p1r1");
        Edge.is("asleep", Due.day(y, 4), 8 + 2 + 1 + 4);
        Edge.is("a link", Due.day(y, 4, 0, 1, 0, 20), 8 + 4);
        Edge.is("awake", Due.day(y, 4, 0, 3), 8);
        Edge.is("of one cell", Due.day(Due.with("l;p1n5"), 4), 1);
        Edge.is("of eight cells", Due.day(Due.with(DOUBLING), 4), 128);
        Edge.says("what CELL c came to then (10 and c;");
        int[] came = {100, 5, 10, -9, 10, -9};
        for (int c = 0; c < 6; c++) Edge.is("cell " + c, Due.day(x, 10 + c, acts), came[c]);
        NeedOnce wrong = Due.with("l;p1f1;p1n1;p1a22;p1n0");
        wrong.need(0);
        wrong.need(2);
        Edge.is("wrong ahead of it", Due.day(wrong, 10, 0, 3), WRONG);
        Edge.is("loop ahead of it", Due.day(wrong, 12, 0, 3), LOOP);
        Edge.is("0", Due.day(wrong, 13, 0, 3), 0);
        Edge.says("NONE: there is no such one, it is ASLEEP);");
        for (int c = 6; c < 8; c++) Edge.is("no such cell", Due.day(x, 10 + c, acts), -9);
        Edge.is("asleep", Due.day(x, 12), -9);
        Edge.is("put to sleep", Due.day(x, 11, 0, 1, 0, 21), -9);
        Edge.says("of one with a FIRST WRONG: -100 less that (but what 1).");
        for (int what : new int[] {0, 2, 3, 4, 10, 15, 17}) {
            Edge.is("what " + what, Due.day(x, what, 0, 5), -100);
            Edge.is("what " + what, Due.day(x, what, late), -119);
        }
        Edge.is("what 1", Due.day(x, 1, 0, 1, 0, 6), 1);
        Edge.is("no fault", x.fault(), 0);
    }

    private static void dayRefusals() {
        Edge.says("UNKNOWN: SHEET;");
        for (int k : new int[] {-1, 4, Integer.MIN_VALUE, Integer.MAX_VALUE}) {
            Edge.refusedAndNoFault("sheet " + k, -1, x -> x.day(k, 0, 0, 1, 0));
        }
        Edge.says("OUTSIDE: lane, n (0 .. 20), what (0 .. 4, 10 .. 17);");
        for (int lane : new int[] {-1, 3}) Edge.refusedAndNoFault("lane " + lane, -2, x -> x.day(1, lane, 0, 1, 0));
        for (int n : new int[] {-1, 21, Integer.MIN_VALUE, Integer.MAX_VALUE}) {
            Edge.refusedAndNoFault("n " + n, -2, x -> x.day(1, 0, 0, n, 0));
        }
        for (int what : new int[] {-1, 5, 9, 18, Integer.MIN_VALUE, Integer.MAX_VALUE}) {
            Edge.refusedAndNoFault("what " + what, -2, x -> x.day(1, 0, 0, 1, what));
        }
        NeedOnce x = Due.with("l;p1n5");
        x.sheet(1, 2, 60);
        for (int n : new int[] {0, 20}) Edge.is("n " + n, x.day(1, 2, 0, n, 0), n == 0 ? 0 : 1);
        for (int what : new int[] {0, 1, 2, 3, 4, 10, 17}) Edge.is("what " + what, x.day(1, 2, 0, 0, what) == -2 ? 1 : 0, 0);
        Edge.says("STATE: there are no CELLS;");
        NeedOnce none = new NeedOnce();
        none.sheet(0, 0, 2);
        for (int what : new int[] {0, 1, 2, 3, 4, 10, 17}) Edge.is("what " + what, none.day(0, 0, 0, 1, what), -3);
        Edge.is("of none", none.day(0, 0, 0, 0, 1), -3);
        Edge.is("of nothing", none.day(1, 0, 0, 0, 1), -3);
        none.put(1, 0, 0);
        none.day(0, 0, 0, 1, 0);
        Edge.is("no fault", none.fault(), 0);
        Edge.says("CAST;");
        Edge.faults("bytes as shorts", 2, y -> y.day(1, 1, 0, 1, 0));
        Edge.faults("bytes as ints", 2, y -> y.day(1, 2, 0, 0, 1));
        Edge.faults("shorts as bytes", 2, y -> y.day(2, 0, 0, 1, 0));
        Edge.says("NULL;");
        for (int lane = 0; lane < 3; lane++) {
            int of = lane;
            Edge.faults("nothing", 1, y -> y.day(3, of, 0, 0, 1));
        }
        Edge.says("INDEX;");
        Edge.faults("one beyond", 3, y -> y.day(2, 1, 1, 1, 0));
        Edge.faults("two beyond", 3, y -> y.day(2, 1, 2, 1, 0));
        Edge.faults("below", 3, y -> y.day(2, 1, -1, 1, 0));
        Edge.faults("far below", 3, y -> y.day(2, 1, Integer.MIN_VALUE, 20, 0));
        Edge.faults("far beyond", 3, y -> y.day(2, 1, Integer.MAX_VALUE, 20, 0));
        Edge.faults("none, beyond", 3, y -> y.day(2, 1, 3, 0, 0));
        Edge.faults("none, below", 3, y -> y.day(2, 1, -1, 0, 0));
        Edge.is("none, at the end", Edge.used().day(2, 1, 2, 0, 1), -9);
        Edge.is("the last pair", x.day(1, 2, 58, 1, 1), -9);
        Edge.is("the last twenty", x.day(1, 2, 20, 20, 1), -9);
        Edge.is("the last twenty, one on", x.day(1, 2, 21, 20, 1), -13);
        Edge.says("pair by pair OUTSIDE: the second is not 0 .. 7, 10 .. 17, 20, 21, the first is not as told with it.");
        String eight = "l;p1n5;p1n5;p1n5;p1n5;p1n5;p1n5;p1n5;p1n5";
        for (int second = -2; second <= 23; second++) {
            x = Due.with(eight);
            boolean priced = second >= 10 && second <= 17;
            boolean zero = (second >= 0 && second <= 7) || second == 20 || second == 21;
            for (int first : new int[] {-1, 0, 1, 9, 10}) {
                boolean told = zero ? first == 0 : priced && first >= 1 && first <= 9;
                Edge.is("pair " + first + " " + second, Due.day(x, 1, first, second), told ? -9 : -2);
            }
        }
        x = Due.with(eight);
        Edge.is("in ints", wide(x, 0, 256), -2);
        Edge.is("in ints", wide(x, 65536, 0), -2);
        Edge.is("a later pair", Due.day(x, 0, 0, 1, 0, 2, 0, 8), -2);
        Edge.is("a later pair behind a wrong one", Due.day(Due.with("l;p1n5"), 1, 0, 1, 0, 8), -2);
        Edge.is("beyond the day's pairs", beyond(x), -9);
        Edge.is("no fault", x.fault(), 0);
    }

    private static int wide(NeedOnce x, int first, int second) {
        Due.row(x, 2, 2, first, second);
        return x.day(2, 2, 0, 1, 1);
    }

    private static int beyond(NeedOnce x) {
        Due.row(x, 2, 2, 0, 1, 0, 99);
        return x.day(2, 2, 0, 1, 1);
    }
}
