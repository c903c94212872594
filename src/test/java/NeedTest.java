/** Promises 5 to 12: need, latest, spent, sleep, shorten, held, plainly, day. */
public final class NeedTest {
    public static void main(String[] args) {
        sumsAndProducts();
        choices();
        pairs();
        loops();
        deep();
        wrongs();
        stopsAsSoonAs();
        pairWhereNumberIsWanted();
        latest();
        sleep();
        shorten();
        links();
        held();
        plainly();
        dayAnswers();
        dayFirstWrong();
        dayRefusals();
        dayChangesNothing();
        Due.end();
    }

    private static void comesTo(String text, int c, int want) {
        NeedOnce x = Due.with(text);
        Due.is("5: need " + c + " of " + text, x.need(c), want);
        Due.is("5: it is kept", x.ofCell(c, 5), want);
        int spent = x.spent();
        Due.is("5: once more", x.need(c), want);
        Due.is("5: once alone", x.spent(), spent);
    }

    private static void sumsAndProducts() {
        comesTo("l;p1n0", 0, 0);
        comesTo("l;p1n9", 0, 9);
        comesTo("l;p1a11;p1n9", 0, 18);
        comesTo("l;p1m11;p1n9", 0, 81);
        comesTo("l;p1a11;p1m22;p1n9", 0, 62);
        comesTo("l;p1m11;p1m22;p1n9", 0, 61);
        comesTo("l;p1a11;p1a22;p1a33;p1a44;p1n5;p1n0", 0, 80);
        comesTo("l;p1a11;p1m23;p1n5;p1a22", 0, 0);
        NeedOnce x = Due.with("l;p1n1");
        Due.is("5: unknown", x.need(1), NeedOnce.UNKNOWN);
        Due.is("5: unknown", x.need(-1), NeedOnce.UNKNOWN);
    }

    private static void choices() {
        comesTo("l;p1i123;p1n1;p1n5;p1n6", 0, 5);
        comesTo("l;p1i123;p1n0;p1n5;p1n6", 0, 6);
        comesTo("l;p1i112;p1n9;p1n5", 0, 9);
        comesTo("l;p1i123;p1n1;p1t00;p1n6", 0, 100);
        comesTo("l;p1i123;p1n0;p1n5;p1t00", 0, 100);
        comesTo("l;p1i120;p1n1;p1n5", 0, 5);
        comesTo("l;p1i102;p1n1;p1n5", 0, 101);
        NeedOnce x = Due.with("l;p1i123;p1n0;p1n5;p1n6");
        x.need(0);
        Due.is("5: the other one sleeps on", x.ofCell(2, 4), 0);
    }

    private static void pairs() {
        comesTo("l;p1t00", 0, 100);
        comesTo("l;p1f1;p1t23;p1n4;p1n5", 0, 4);
        comesTo("l;p1r1;p1t23;p1n4;p1n5", 0, 5);
        comesTo("l;p1f1;p1i234;p1n0;p1n4;p1t32", 0, 4);
        comesTo("l;p1r1;p1f2;p1t33;p1t45;p1n1;p1n2", 0, 2);
        comesTo("l;p1f1;p1r2;p1t33;p1t22", 0, 100);
        NeedOnce x = Due.with("l;p1t11;p1n1");
        x.need(0);
        Due.is("5: parts sleep on", x.ofCell(1, 4), 0);
    }

    private static void loops() {
        comesTo("l;p1a01;p1n1", 0, 101);
        comesTo("l;p1a10;p1n1", 0, 101);
        comesTo("l;p1f0", 0, 101);
        comesTo("l;p1i000", 0, 101);
        comesTo("l;p1f1;p1t00", 0, 101);
        comesTo("l;p1a11;p1m22;p1r0", 0, 101);
        NeedOnce x = Due.with("l;p1a11;p1m22;p1r0;p1n1");
        Due.is("5: loop", x.need(1), 101);
        for (int c = 0; c < 3; c++) Due.is("5: all of it loops", x.ofCell(c, 5), 101);
        Due.is("5: but this one", x.ofCell(3, 5), NeedOnce.NONE);
        Due.is("6: deep", x.latest(1), 3);
        Due.is("6: done", x.latest(10), 0);
        Due.is("6: done", x.latest(11), 2);
        Due.is("6: done", x.latest(12), 1);
    }

    private static void deep() {
        deep("l;p1n1", 1);
        deep("l;p1a12;p1n1;p1a33;p1a44;p1n1", 4);
        deep("l;p1m21;p1n1;p1m33;p1m44;p1n1", 4);
        deep("l;p1i122;p1a33;p1n1;p1n1", 3);
        deep("l;p1i123;p1n1;p1a33;p1n1", 3);
        deep("l;p1i132;p1n0;p1a33;p1n1", 3);
        deep("l;p1f1;p1t22;p1a33;p1n1", 3);
        deep("l;p1r1;p1f2;p1t33;p1t44;p1n1", 3);
        deep("l;p1a11;p1a22;p1a33;p1a44;p1a55;p1a66;p1a77;p1n1", 8);
        deep("l;p1a11;p1a22;p1a33;p1a44;p1a55;p1a66;p1a77;p1a00", 8);
    }

    private static void deep(String text, int want) {
        NeedOnce x = Due.with(text);
        x.need(0);
        Due.is("6: deep of " + text, x.latest(1), want);
    }

    private static void wrongs() {
        comesTo("l;p1a12;p1n1;p1t00", 0, 102);
        comesTo("l;p1m21;p1n1;p1t00", 0, 102);
        comesTo("l;p1i111;p1t00", 0, 102);
        comesTo("l;p1f1;p1n1", 0, 102);
        comesTo("l;p1r1;p1n1", 0, 102);
        comesTo("l;p1a12;p1n1;p1f1", 0, 102);
        comesTo("l;p1i123;p1n1;p1f1;p1n1", 0, 102);
        comesTo("l;p1f1;p1t23;p1f3;p1n1", 0, 102);
        comesTo("l;p1f1;p1f1", 0, 101);
    }

    private static void stopsAsSoonAs() {
        NeedOnce x = Due.with("l;p1a02;p1a32;p1n1;p1f2;p1n1");
        Due.is("5: the first loops", x.need(0), 101);
        Due.is("5: nothing more is needed", x.ofCell(2, 4), 0);
        x = Due.with("l;p1m12;p1f3;p1n1;p1n2");
        Due.is("5: the first is wrong", x.need(0), 102);
        Due.is("5: nothing more is needed", x.ofCell(2, 4), 0);
        x = Due.with("l;p1i122;p1f3;p1n1;p1n2");
        Due.is("5: the first is wrong", x.need(0), 102);
        Due.is("5: nothing more is needed", x.ofCell(2, 4), 0);
        x = Due.with("l;p1i123;p1t23;p1n1;p1n2");
        Due.is("5: the first is a pair", x.need(0), 102);
        Due.is("6: nothing more is needed", x.latest(0), 2);
    }

    /** A PAIR where a number is wanted: WRONG there, and the PARTS behind it sleep on. */
    private static void pairWhereNumberIsWanted() {
        for (String sign : new String[] {"a", "m"}) {
            NeedOnce x = Due.with("l;p2" + sign + "12;p3t00;p4n3");
            Due.is("5: a pair first", x.need(0), 102);
            Due.is("5: the second one sleeps on", x.ofCell(2, 4), 0);
            Due.is("6: worked", x.latest(0), 2);
            Due.is("6: cost", x.latest(2), 5);
            Due.is("6: done", x.latest(10), 1);
            Due.is("6: done", x.latest(11), 0);
            Due.is("6: done", x.latest(12), NeedOnce.NONE);
            Due.is("7: spent", x.spent(), 5);
            Due.is("12: spent", Due.day(x, 0, 0, 21, 0, 1), 8);
            Due.is("12: first wrong", Due.day(x, 1, 0, 21, 0, 1, 0, 0), 2);
            x = Due.with("l;p1" + sign + "12;p1n3;p1t00");
            Due.is("5: a pair second", x.need(0), 102);
            Due.is("6: the first one was needed", x.latest(0), 3);
            comesTo("l;p1" + sign + "10;p1t00", 0, 102);
            comesTo("l;p1" + sign + "12;p1t00;p1f2", 0, 102);
            comesTo("l;p1" + sign + "11;p1t00", 0, 102);
            comesTo("l;p1" + sign + "21;p1t00;p1f2", 0, 101);
            comesTo("l;p1" + sign + "20;p1t11;p1f1", 0, 102);
            x = Due.with("l;p1" + sign + "23;p1t44;p1f1;p1n1;p1t44");
            x.need(1);
            x.shorten();
            Due.is("5: a pair by a link", x.need(0), 102);
            Due.is("5: the second one sleeps on", x.ofCell(3, 4), 0);
        }
    }

    private static void latest() {
        NeedOnce x = Due.with("l;p3a12;d2m33;w7f4;p1n5;p9t33");
        for (int what = 0; what < 3; what++) Due.is("6: ahead", x.latest(what), 0);
        for (int k = 0; k < 8; k++) Due.is("6: ahead", x.latest(10 + k), NeedOnce.NONE);
        Due.is("5: need", x.need(0), 30);
        int[] due = {5, 3, 30};
        for (int what = 0; what < 3; what++) Due.is("6: latest", x.latest(what), due[what]);
        int[] done = {3, 1, 4, 2, 0, -9, -9, -9};
        for (int k = 0; k < 8; k++) Due.is("6: done", x.latest(10 + k), done[k]);
        Due.is("7: spent", x.spent(), 30);
        x.need(99);
        Due.is("6: a refusal is none", x.latest(0), 5);
        x.sleep();
        Due.is("6: it stays", x.latest(12), 4);
        Due.day(x, 0, 0, 3);
        x.plainly(0);
        x.odds(0, 3, 1, 0);
        Due.is("6: by need() alone", x.latest(0), 5);
        x.need(3);
        Due.is("6: latest", x.latest(0), 1);
        Due.is("6: done", x.latest(11), NeedOnce.NONE);
        Due.is("7: spent", x.spent(), 31);
        x.need(3);
        Due.is("6: of one awake", x.latest(0), 0);
        Due.is("6: of one awake", x.latest(1), 0);
        Due.is("6: of one awake", x.latest(10), NeedOnce.NONE);
        for (int what : new int[] {-1, 3, 9, 18, Integer.MIN_VALUE, Integer.MAX_VALUE}) {
            Due.is("6: what", x.latest(what), NeedOnce.OUTSIDE);
        }
    }

    private static void sleep() {
        NeedOnce x = Due.with("l;p3t12;d2n5;w7a11;p1f0;p4r0");
        Due.is("8: none", x.sleep(), 0);
        x.need(3);
        x.shorten();
        Due.is("28: links", x.many(2), 1);
        Due.is("8: awake", x.sleep(), 3);
        Due.is("8: no links", x.many(2), 0);
        Due.is("8: asleep", x.many(1), 0);
        Due.is("8: as told", x.ofCell(4, 3), 6);
        Due.is("8: as told", x.ofCell(4, 6), NeedOnce.NONE);
        Due.is("7: spent stays", x.spent(), 7);
        Due.is("5: worked anew", x.need(3), 5);
        Due.is("7: spent", x.spent(), 14);
    }

    private static void shorten() {
        NeedOnce x = Due.with("l;p1t12;p1n5;p1t10;p1f0;p1r0;p1f4;p1r7;p1r0");
        Due.is("9: none awake", x.shorten(), 0);
        x.need(0);
        Due.is("9: three", x.shorten(), 3);
        Due.is("9: no more", x.shorten(), 0);
        Due.is("9: link", x.ofCell(3, 6), 1);
        Due.is("9: link", x.ofCell(4, 6), 2);
        Due.is("9: link", x.ofCell(7, 6), 2);
        Due.is("9: of one asleep none", x.ofCell(5, 6), NeedOnce.NONE);
        Due.is("5: a link to a pair", x.need(4), 100);
        Due.is("9: of an awake link", x.shorten(), 1);
        Due.is("9: of its pair", x.ofCell(5, 6), 1);
        Due.is("5: a link", x.need(7), 100);
        Due.is("9: of an awake link", x.shorten(), 1);
        Due.is("9: of its pair", x.ofCell(6, 6), 0);
        x = Due.with("l;p1f1;p1t23;p1n1;p1n2;p1n3;p1n4;p1n5;p1r1");
        x.need(1);
        Due.is("9: the first and the last", x.shorten(), 2);
        Due.is("28: links", x.many(2), 2);
        Due.is("28: awake", x.many(1), 1);
        Due.is("10: the first and the last", x.held(129), 1 + 4 + 8 + 128);
        x = Due.with("l;p1t12;p1n5;p1n6;p1f0");
        x.need(3);
        Due.is("9: one awake is none", x.shorten(), 0);
        x = Due.with("l;p1n5;p1f0");
        x.need(0);
        Due.is("9: a number is no pair", x.shorten(), 0);
    }

    private static void links() {
        NeedOnce x = Due.with("l;p1t12;d4n5;w2a11;p9f0;p8r0");
        x.need(0);
        x.shorten();
        Due.is("5: through a link", x.need(4), 10);
        Due.is("6: it is counted", x.latest(0), 3);
        Due.is("6: and deep", x.latest(1), 3);
        Due.is("6: but not paid", x.latest(2), 9);
        Due.is("7: spent", x.spent(), 10);
        Due.is("6: done", x.latest(12), 4);
        Due.is("3: still a link", x.ofCell(4, 3), 7);
        Due.is("28: links", x.many(2), 2);
        x = Due.with("l;p1t11;p1f0");
        x.need(0);
        Due.is("9: a link to itself", x.shorten(), 1);
        Due.is("9: a link to itself", x.ofCell(1, 6), 1);
        Due.is("5: loops", x.need(1), 101);
        Due.is("6: once", x.latest(0), 1);
    }

    private static void held() {
        NeedOnce x = Due.with("l;p1t12;p1n5;p1i134;p1f0;p1r0;p1a55");
        Due.is("10: number", x.held(2), 2);
        Due.is("10: choice", x.held(4), 31);
        Due.is("10: itself", x.held(32), 32);
        Due.is("10: two", x.held(34), 34);
        Due.is("10: none", x.held(0), 0);
        Due.is("10: not looked at", x.held(192), 0);
        Due.is("10: not looked at", x.held(255), 63);
        Due.is("10: outside", x.held(256), NeedOnce.OUTSIDE);
        Due.is("10: outside", x.held(-1), NeedOnce.OUTSIDE);
        x.need(3);
        Due.is("10: awake with a number", x.held(8), 8);
        x.shorten();
        Due.is("10: a link asleep", x.held(16), 30);
        Due.is("10: awake pair", x.held(1), 31);
        x.need(2);
        Due.is("10: awake choice", x.held(4), 4);
        Due.is("10: a link to one awake", x.held(16), 20);
        x.need(5);
        Due.is("10: awake with a loop", x.held(32), 32);
        x = Due.with("l;p1t12;p1n5;p1t11;p1f0;p1r0");
        x.need(0);
        x.shorten();
        Due.is("10: links asleep", x.held(8 + 16), 8 + 2 + 16 + 4);
        x.need(3);
        x.need(4);
        Due.is("10: an awake link with a number", x.held(8), 8);
        Due.is("10: an awake link with a pair", x.held(16), 16 + 2);
        x = Due.with("l;p1t12;p1n5;p1n6;p1i104;p1t33");
        x.need(3);
        Due.is("10: that very pair", x.held(8), 8 + 2 + 4);
        x.sleep();
        Due.is("10: asleep again", x.held(8), 31);
    }

    private static void plainly() {
        plainly("l;p1n5", 0, 1);
        plainly("l;p1a11;p1n5", 0, 3);
        plainly("l;p1a11;p1a22;p1a33;p1a44;p1a55;p1a66;p1a77;p1n1", 0, 255);
        plainly("l;p1f1;p1t23;p1a33;p1n1", 0, 5);
        plainly("l;p1i123;p1n0;p1n1;p1a11", 0, 5);
        plainly("l;p1t00", 0, 1);
        plainly("l;p1a01;p1n5", 0, NeedOnce.NONE);
        plainly("l;p1f1;p1t00", 0, NeedOnce.NONE);
        plainly("l;p1f1;p1t00", 1, 1);
        plainly("l;p1a11;p1f2;p1n3", 0, 3);
        plainly("l;p1a12;p1t00;p1n3", 0, 2);
        plainly("l;p1m12;p1t00;p1n3", 0, 2);
        plainly("l;p1a12;p1n3;p1t00", 0, 3);
        plainly("l;p1m10;p1t00", 0, 2);
        plainly("l;p3t12;d2n5;p7a11;w1f0;p4r0;p1a51;p2i104;d5m61", 7, 4);
        NeedOnce x = Due.with("l;p1a11;p1f2;p1t33;p1n3");
        x.need(2);
        x.shorten();
        Due.is("11: no links", x.plainly(0), 7);
        Due.is("11: nothing is changed", x.many(2), 1);
        Due.is("11: nothing is changed", x.many(1), 1);
        Due.is("11: nothing is changed", x.spent(), 1);
        Due.is("2: refused", Due.heap(x, "l;p1n1;p1n"), -110);
        Due.is("11: of the cells there are", x.plainly(0), 7);
        Due.is("11: unknown", x.plainly(4), NeedOnce.UNKNOWN);
        Due.is("11: unknown", x.plainly(-1), NeedOnce.UNKNOWN);
    }

    private static void plainly(String text, int c, int want) {
        Due.is("11: plainly " + c + " of " + text, Due.with(text).plainly(c), want);
    }

    private static void dayAnswers() {
        NeedOnce x = Due.with("l;p3t12;d2n5;w7a11;p1f0;p4r0;p1n0");
        x.need(1);
        int[] acts = {0, 0, 9, 12, 0, 20, 0, 4};
        Due.is("12: spent", Due.day(x, 0, acts), 3 + 3 + 18);
        Due.is("12: first wrong", Due.day(x, 1, acts), NeedOnce.NONE);
        Due.is("12: awake", Due.day(x, 2, acts), 4);
        Due.is("12: links", Due.day(x, 3, acts), 2);
        Due.is("12: held by the last", Due.day(x, 4, acts), 32);
        int[] came = {100, 5, 10, -9, 10, -9, -9, -9};
        for (int c = 0; c < 8; c++) Due.is("12: came to", Due.day(x, 10 + c, acts), came[c]);
        Due.is("12: sleep", Due.day(x, 2, 0, 0, 0, 20, 0, 21), 0);
        Due.is("12: sleep", Due.day(x, 3, 0, 0, 0, 20, 0, 21), 0);
        Due.is("12: sleep, spent", Due.day(x, 0, 0, 0, 0, 21, 0, 0), 9);
        Due.is("12: no acts", Due.day(x, 0), 3);
        int[] twenty = new int[40];
        for (int k = 0; k < 20; k++) twenty[2 * k + 1] = k % 2 == 0 ? 5 : 21;
        Due.is("12: twenty", Due.day(x, 0, twenty), 13);
        x = Due.with("l;p1t12;p1n5;p1t11;p1r0");
        Due.is("12: held by a link", Due.day(x, 4, 0, 0, 0, 20), 8 + 4 + 2);
        Due.is("12: held by a pair", Due.day(x, 4, 0, 3), 8 + 2);
        Due.is("12: least and most price", Due.day(x, 0, 1, 10, 0, 0, 9, 11, 0, 1), 10);
        Due.is("5: need", x.need(3), 100);
        x.plainly(0);
        Due.is("12: held by that pair", Due.day(x, 4), 8 + 2);
        Due.is("12: spent goes on", Due.day(x, 0, 0, 1), 4);
        x = Due.with("l;p1n5");
        int[] sixty = new int[60];
        for (int k = 21; k < 60; k += 2) sixty[k] = 20;
        Due.row(x, 2, 2, sixty);
        Due.is("12: to the row's end", x.day(2, 2, 20, 20, 1), NeedOnce.NONE);
    }

    private static void dayFirstWrong() {
        NeedOnce x = Due.with("l;p3t11;d2n5;w7f1;p1a33");
        Due.is("12: wrong", Due.day(x, 0, 0, 0, 0, 2), -101);
        Due.is("12: wrong", Due.day(x, 1, 0, 0, 0, 2), 1);
        Due.is("12: loop", Due.day(x, 12, 0, 3, 0, 0), -100);
        Due.is("12: no such cell", Due.day(x, 1, 0, 1, 0, 0, 0, 4), 2);
        Due.is("12: no such cell's price", Due.day(x, 1, 9, 13, 9, 14), 1);
        Due.is("12: the first", Due.day(x, 1, 0, 7, 0, 2), 0);
        x.need(2);
        Due.is("12: awake and wrong", Due.day(x, 1, 0, 2), 0);
    }

    private static void dayRefusals() {
        NeedOnce none = new NeedOnce();
        Due.is("12: unknown", none.day(4, 9, 0, 0, 0), NeedOnce.UNKNOWN);
        Due.is("12: outside ahead of state", none.day(0, 3, 0, 0, 0), NeedOnce.OUTSIDE);
        Due.is("12: state", none.day(0, 0, -1, 1, 0), NeedOnce.STATE);
        Due.is("12: no fault", none.fault(), 0);
        NeedOnce x = Due.with("l;p3t11;d2n5");
        Due.row(x, 1, 0, 0, 1, 0, 0);
        Due.is("12: unknown", x.day(-1, 0, 0, 0, 0), NeedOnce.UNKNOWN);
        for (int n : new int[] {-1, 21}) Due.is("12: n", x.day(1, 0, 0, n, 0), NeedOnce.OUTSIDE);
        for (int what : new int[] {-1, 5, 9, 18}) Due.is("12: what", x.day(1, 0, 0, 1, what), NeedOnce.OUTSIDE);
        Due.is("12: cast", x.day(1, 1, 0, 9, 0), -12);
        Due.is("12: null", x.day(2, 1, 0, 9, 0), -11);
        Due.is("12: index", x.day(1, 0, 0, 3, 0), -13);
        Due.is("12: index", x.day(1, 0, 3, 1, 0), -13);
        Due.is("12: index", x.day(1, 0, 5, 0, 0), -13);
        Due.is("12: index", x.day(1, 0, -1, 0, 0), -13);
        Due.is("12: fault", x.fault(), 3);
        Due.is("12: none from the end on", x.day(1, 0, 4, 0, 1), NeedOnce.NONE);
        Due.is("12: fault", x.fault(), 0);
        int[][] acts = {{0, 8}, {0, 9}, {0, 10}, {10, 10}, {1, 18}, {0, 19}, {0, 22}, {1, 20}, {1, 21}, {1, 0}, {0, -1}, {-1, 0}};
        for (int[] act : acts) Due.is("12: act " + act[0] + " " + act[1], Due.day(x, 1, act), NeedOnce.OUTSIDE);
        Due.is("12: ahead of a first wrong", Due.day(x, 1, 0, 7, 0, 22), NeedOnce.OUTSIDE);
    }

    private static void dayChangesNothing() {
        NeedOnce x = Due.with("l;p3t11;d2n5;w7f0");
        Due.is("12: day", Due.day(x, 0, 9, 10, 0, 0, 0, 20, 0, 2), 12);
        Due.is("12: price", x.ofCell(0, 1), 3);
        Due.is("12: spent", x.spent(), 0);
        for (int what = 1; what < 3; what++) Due.is("12: many", x.many(what), 0);
        Due.is("2: all anew behind a day", Due.heap(x, "l;p3t11;d2n5;w7f0"), 3);
        for (int what = 1; what < 3; what++) Due.is("12: many", x.many(what), 0);
    }
}
