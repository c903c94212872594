import java.util.ArrayList;
import java.util.List;

/**
 * All FORMS of one and two CELLS with all runs of three acts or more (need, SHORTENING, sleep), and some of three CELLS
 * with one run each, on the program and on the model: random runs may miss a small TEXT. Kinds and PRICES are always the
 * same here, and NUMBERs are 0 and 3 alone.
 */
public final class SmallWorldsTest {
    /** From one TEXT of three CELLS with a run of acts on to the next: a prime, so that no kind of them is always left out. */
    private static final int STEP = 29423;

    private final NeedOnce x = new NeedOnce();
    private final Model y = new Model();
    private final String text;
    private final int many;

    private SmallWorldsTest(String text, int many) {
        this.text = text;
        this.many = many;
    }

    public static void main(String[] args) {
        all(1, 4, 1);
        all(2, 3, 1);
        all(3, 4, args.length > 0 ? Integer.parseInt(args[0]) : STEP);
        Due.end();
    }

    private static void all(int many, int acts, int step) {
        List<String> forms = forms(many);
        long texts = power(forms.size(), many), runs = power(many + 2, acts);
        for (long k = 0; k < texts * runs; k += step) {
            SmallWorldsTest world = new SmallWorldsTest(text(forms, k / runs, many), many);
            world.begin();
            world.run(k % runs, acts);
        }
    }

    private static long power(long of, int times) {
        return times == 0 ? 1 : of * power(of, times - 1);
    }

    /** All FORMS of a CELL among so many; as a NUMBER 0 and 3, which a CHOICE tells apart. */
    private static List<String> forms(int many) {
        List<String> forms = new ArrayList<>(List.of("n0", "n3"));
        for (String sign : List.of("a", "m", "t")) withParts(forms, sign, 2, many);
        withParts(forms, "i", 3, many);
        for (String sign : List.of("f", "r")) withParts(forms, sign, 1, many);
        return forms;
    }

    private static void withParts(List<String> forms, String told, int parts, int many) {
        if (parts == 0) {
            forms.add(told);
            return;
        }
        for (int part = 0; part < many; part++) withParts(forms, told + part, parts - 1, many);
    }

    private static String text(List<String> forms, long which, int many) {
        StringBuilder text = new StringBuilder("l");
        for (int c = 0; c < many; c++) {
            text.append(';').append("wpd".charAt(c)).append(3 + 2 * c).append(forms.get((int) (which % forms.size())));
            which /= forms.size();
        }
        return text.toString();
    }

    private void begin() {
        y.sheet(0, 2, text.length());
        for (int i = 0; i < text.length(); i++) y.put(0, i, text.charAt(i));
        Due.is("heap of " + text, Due.heap(x, text), y.heap(0, 2, 0, text.length()));
        for (int c = 0; c < many; c++) {
            Due.is(text + ": plainly " + c, x.plainly(c), y.plainly(c));
            for (int v : new int[] {0, 3, 6, 100, 101, 102}) {
                Due.is(text + ": odds " + c + " of " + v, x.odds(c, 0, v, 0), y.odds(c, 0, v, 0));
            }
        }
    }

    private void run(long acts, int howMany) {
        String done = text;
        for (int k = 0; k < howMany; k++) {
            int act = (int) (acts % (many + 2));
            acts /= many + 2;
            done = done + (act < many ? " need " + act : act == many ? " shorten" : " sleep");
            if (act < many) Due.is(done, x.need(act), y.need(act));
            else if (act == many) Due.is(done, x.shorten(), y.shorten());
            else Due.is(done, x.sleep(), y.sleep());
            compare(done);
        }
    }

    private void compare(String done) {
        Due.is(done + ": spent", x.spent(), y.spent());
        Due.is(done + ": awake", x.many(1), y.many(1));
        Due.is(done + ": links", x.many(2), y.many(2));
        for (int what : new int[] {0, 1, 2, 10, 11, 12}) Due.is(done + ": latest " + what, x.latest(what), y.latest(what));
        for (int c = 0; c < many; c++) {
            for (int what = 3; what <= 6; what++) Due.is(done + ": ofCell " + c + " " + what, x.ofCell(c, what), y.ofCell(c, what));
            Due.is(done + ": held by " + c, x.held(1 << c), y.held(1 << c));
        }
        Due.is(done + ": held by all", x.held(255), y.held(255));
    }
}
