import java.io.IOException;
import java.nio.file.Files;
import java.nio.file.Path;
import java.util.ArrayList;
import java.util.BitSet;
import java.util.List;
import java.util.Map;
import java.util.TreeMap;
import java.util.regex.Matcher;
import java.util.regex.Pattern;

/**
 * The document's sentences, each with a test of its own: says() begins one by quoting it, and what is asked
 * behind that is asked for this sentence. At the end no sentence may be without a test.
 */
final class Edge {
    interface Call {
        long on(NeedOnce x);
    }

    private static final class Scope {
        final String text;
        final BitSet quoted = new BitSet();

        Scope(String text) {
            this.text = text;
        }
    }

    /** "part 0" .. "part 4" of the terms, "promise 1" .. "promise 28". */
    private static final Map<String, Scope> SCOPES = new TreeMap<>();
    private static String scope = "";
    private static String sentence = "";
    private static int askedBefore = 0;

    private Edge() {
    }

    static void read(Path document) throws IOException {
        String all = Files.readString(document).replaceAll("```(text)?", "").replaceAll("\\s+", " ");
        String terms = between(all, "## Terms", "Ahead of the calls");
        String[] parts = terms.split("==== \\d ");
        for (int k = 0; k < parts.length; k++) SCOPES.put("part " + k, new Scope(parts[k]));
        Matcher promise = Pattern.compile("## Promise (\\d+): [^`]*`[^`]*`: (.*?)(?= ## )").matcher(all);
        while (promise.find()) SCOPES.put("promise " + promise.group(1), new Scope(promise.group(2)));
        Due.is("parts and promises of the document", SCOPES.size(), 5 + 28);
    }

    private static String between(String all, String from, String to) {
        int begin = all.indexOf(from) + from.length();
        return all.substring(begin, all.indexOf(to, begin));
    }

    static void part(int k) {
        enter("part " + k);
    }

    static void promise(int k) {
        enter("promise " + k);
    }

    private static void enter(String name) {
        endSentence();
        scope = name;
        sentence = "";
    }

    /** Begins the test of a sentence, which must stand in this part or promise once, word by word. */
    static void says(String quote) {
        endSentence();
        sentence = quote;
        Scope in = SCOPES.get(scope);
        int at = in == null ? -1 : in.text.indexOf(quote);
        Due.is(scope + " says once: " + quote, at >= 0 && in.text.indexOf(quote, at + 1) < 0 ? 1 : 0, 1);
        if (at >= 0) in.quoted.set(at, at + quote.length());
        askedBefore = Due.asked();
    }

    private static void endSentence() {
        if (sentence.isEmpty()) return;
        Due.is("tested is " + scope + ": " + sentence, Due.asked() > askedBefore ? 1 : 0, 1);
    }

    /** All that stands in the document and was quoted by no test. */
    static void end() {
        enter("");
        List<String> left = new ArrayList<>();
        for (Map.Entry<String, Scope> entry : SCOPES.entrySet()) {
            Scope in = entry.getValue();
            int from = in.quoted.nextClearBit(0);
            while (from < in.text.length()) {
                int to = in.quoted.nextSetBit(from);
                if (to < 0) to = in.text.length();
                String words = in.text.substring(from, to);
                if (words.matches(".*[A-Za-z0-9].*")) left.add(entry.getKey() + ": " + words);
                from = in.quoted.nextClearBit(to);
            }
        }
        for (String words : left) System.out.println("without a test: " + words);
        Due.is("sentences without a test", left.size(), 0);
    }

    static void is(String call, long got, long want) {
        Due.is(scope + ": \"" + sentence + "\": " + call, got, want);
    }

    /** An object in which everything there is has something in it: a LINK, a READING, TRACE, SHEETS, what was SPENT. */
    static NeedOnce used() {
        NeedOnce x = Due.with("l;p3t12;d2n5;w7a11;p1f0;p4r0");
        x.need(3);
        x.shorten();
        x.reading(3, 7);
        x.tell(2);
        Due.row(x, 1, 0, 0, 1, 3, 11, -128);
        Due.row(x, 2, 1, 7, 8);
        return x;
    }

    /** All that can be asked without changing anything but fault(). */
    static String state(NeedOnce x) {
        StringBuilder all = new StringBuilder();
        for (int what = 0; what < 4; what++) all.append(x.many(what)).append(' ');
        all.append(x.spent()).append(' ').append(x.trace()).append(" latest");
        for (int what = 0; what < 18; what = what == 2 ? 10 : what + 1) all.append(' ').append(x.latest(what));
        for (int c = 0; c < x.many(0); c++) {
            all.append(" cell ").append(x.plainly(c)).append(' ').append(x.kinds(c)).append(' ').append(x.prices(c));
            for (int what = 0; what < 13; what = what == 6 ? 10 : what + 1) all.append(' ').append(x.ofCell(c, what));
        }
        for (int k = 0; k < 4; k++) all.append(" sheet").append(sheetState(x, k));
        return all.toString();
    }

    private static String sheetState(NeedOnce x, int k) {
        for (int lane = 0; lane < 3; lane++) {
            x.cell(k, -1, lane);
            if (x.fault() == 1) return " nothing";
            if (x.fault() == 2) continue;
            StringBuilder row = new StringBuilder(" of lane " + lane);
            for (int i = 0; i < 60; i++) {
                long cell = x.cell(k, i, lane);
                if (cell == NeedOnce.LOST) break;
                row.append(' ').append(cell);
            }
            return row.toString();
        }
        return " of no lane";
    }

    /** A call that names no FAULTS and only looks: it changes nothing, not even fault(). */
    static void looks(String call, long want, Call what) {
        for (int preset : new int[] {2, 4}) answers(call, want, preset, preset, what);
    }

    /** A call that names FAULTS, comes to none and only looks: it changes nothing but fault(). */
    static void looksAndNoFault(String call, long want, Call what) {
        answers(call, want, 2, 0, what);
    }

    static void refused(String call, long want, Call what) {
        looks(call, want, what);
    }

    static void refusedAndNoFault(String call, long want, Call what) {
        looksAndNoFault(call, want, what);
    }

    /** A FAULT, answered as an int. */
    static void faults(String call, int fault, Call what) {
        for (int preset : new int[] {2, 4}) answers(call, -10 - fault, preset, fault, what);
    }

    /** A FAULT, where a long is answered. */
    static void faultsAndLost(String call, int fault, Call what) {
        for (int preset : new int[] {2, 4}) answers(call, NeedOnce.LOST, preset, fault, what);
    }

    private static void answers(String call, long want, int preset, int fault, Call what) {
        NeedOnce x = used();
        String before = state(x);
        if (preset == 2) x.as(0, 2);
        else x.sheet(0, 0, -1);
        is(call, what.on(x), want);
        is("fault() behind " + call, x.fault(), fault);
        String after = state(x);
        is(call + " changes nothing: " + before + " / " + after, before.equals(after) ? 1 : 0, 1);
    }
}
