/** What the project's tests share: answers that are due, and TEXTS and rows put into SHEETS. */
final class Due {
    private static int asked = 0;
    private static int wrong = 0;

    private Due() {
    }

    static void is(String call, long got, long want) {
        asked++;
        if (got == want) return;
        wrong++;
        System.out.println(call + " answered " + got + ", due is " + want);
    }

    static int asked() {
        return asked;
    }

    /** Puts a row of a LANE with these numbers into a SHEET. */
    static void row(NeedOnce x, int sheet, int lane, int... numbers) {
        is("sheet", x.sheet(sheet, lane, numbers.length), 1);
        for (int i = 0; i < numbers.length; i++) {
            if (numbers[i] != 0) is("put", x.put(sheet, i, numbers[i]), 1);
        }
    }

    static int[] codes(String text) {
        int[] codes = new int[text.length()];
        for (int i = 0; i < codes.length; i++) codes[i] = text.charAt(i);
        return codes;
    }

    /** heap() of a TEXT that is put into SHEET 0. */
    static int heap(NeedOnce x, String text) {
        row(x, 0, 2, codes(text));
        return x.heap(0, 2, 0, text.length());
    }

    /** A new object with the CELLS of a TEXT. */
    static NeedOnce with(String text) {
        NeedOnce x = new NeedOnce();
        is("heap of " + text, heap(x, text), text.chars().filter(sign -> sign == ';').count());
        return x;
    }

    /** day() of acts that are put into SHEET 3. */
    static int day(NeedOnce x, int what, int... acts) {
        row(x, 3, 1, acts);
        return x.day(3, 1, 0, acts.length / 2, what);
    }

    static void end() {
        System.out.println(asked + " answers, " + wrong + " of them not as due");
        if (wrong != 0 || asked == 0) System.exit(1);
    }
}
