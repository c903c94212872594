import java.util.Arrays;

/**
 * Cells that are worked when they are needed, and once. The words in capitals are the terms of the
 * document ../shared/DOC.md, whose promises the public calls keep.
 */
public final class NeedOnce {
    public static final int UNKNOWN = -1, OUTSIDE = -2, STATE = -3, FULL = -4, NONE = -9;
    public static final long LOST = Long.MIN_VALUE;

    private static final int NULL = 1, CAST = 2, INDEX = 3, SIZE = 4;

    private static final int MOST_CELLS = 8, MOST_PARTS = 3, MOST_READINGS = 8;
    private static final int SHEETS = 4, LONGEST_ROW = 60, LANES = 3, NOTHING = -1;
    private static final int MOST_ACTS = 20, DEAREST_READING = 200, MOST_TIMES = 999;
    private static final int LEAST_PRICE = 1, MOST_PRICE = 9, ALL_SETS = 255;

    private static final int KINDS = 3, DEAR = 1, DOUBLE = 2;
    private static final int NUMBER = 0, SUM = 1, PRODUCT = 2, CHOICE = 3, PAIR = 4, FIRST = 5, REST = 6, LINK = 7;
    private static final int CAME_TO_PAIR = 100, CAME_TO_LOOP = 101, CAME_TO_WRONG = 102;

    private static final char[] KIND_LETTERS = {'p', 'd', 'w'};
    private static final char[] FORM_SIGNS = {'n', 'a', 'm', 'i', 't', 'f', 'r'};
    /** By FORM; a NUMBER is told like one with a single PART. */
    private static final int[] HOW_MANY_PARTS = {1, 2, 2, 3, 2, 1, 1};

    private final Cells cells = new Cells();
    /** Whatever would change the CELLS only to see what comes of it is done here, to a copy. */
    private final Cells trial = new Cells();
    private final TextReader reader = new TextReader();
    private final Readings readings = new Readings();
    private final Sheets sheets = new Sheets();
    private int traced;
    private int latestFault;

    public NeedOnce() {
    }

    // ---- 1 cells

    public int heap(int sheet, int lane, int i, int n) {
        latestFault = 0;
        if (!sheets.has(sheet)) return UNKNOWN;
        if (!isLane(lane)) return OUTSIDE;
        int found = sheets.rangeFault(sheet, lane, i, n);
        if (found != 0) return faulted(found);
        int firstFault = reader.readInto(trial, sheets, sheet, i, n);
        if (firstFault != NONE) return -100 - firstFault;
        int loose = trial.firstLoose();
        if (loose != NONE) return -200 - loose;
        cells.becomeLike(trial);
        cells.startLatest();
        readings.count = 0;
        return cells.count;
    }

    public int ofCell(int c, int what) {
        if (!cells.has(c)) return UNKNOWN;
        switch (what) {
            case 0: return cells.kindOf[c];
            case 1: return cells.priceOf[c];
            case 2: return cells.costOf(c);
            case 3: return cells.formNow(c);
            case 4: return cells.isAwake(c) ? 1 : 0;
            case 5: return cells.cameTo[c];
            case 6: return cells.linkTo[c];
            case 10: case 11: case 12: return cells.partAsTold(c, what - 10);
            default: return OUTSIDE;
        }
    }

    public int price(int c, int v) {
        if (!cells.has(c)) return UNKNOWN;
        if (v < LEAST_PRICE || v > MOST_PRICE) return OUTSIDE;
        int was = cells.priceOf[c];
        cells.priceOf[c] = v;
        return was;
    }

    // ---- 2 need

    public int need(int c) {
        return cells.has(c) ? cells.needAnew(c) : UNKNOWN;
    }

    public int latest(int what) {
        switch (what) {
            case 0: return cells.worked;
            case 1: return cells.deep;
            case 2: return cells.workedCost;
            default: break;
        }
        int k = what - 10;
        if (what < 10 || k >= MOST_CELLS) return OUTSIDE;
        return k < cells.doneCount ? cells.done[k] : NONE;
    }

    public int spent() {
        return cells.spentSoFar;
    }

    public int sleep() {
        int were = cells.howManyAwake();
        cells.putToSleep();
        return were;
    }

    public int shorten() {
        return cells.makeLinks();
    }

    public int held(int set) {
        return set < 0 || set > ALL_SETS ? OUTSIDE : cells.heldBy(set);
    }

    public int plainly(int c) {
        if (!cells.has(c)) return UNKNOWN;
        trial.becomeLike(cells);
        return trial.timesPlainly(c);
    }

    public int day(int sheet, int lane, int i, int n, int what) {
        latestFault = 0;
        if (!sheets.has(sheet)) return UNKNOWN;
        if (!isLane(lane) || n < 0 || n > MOST_ACTS || !isOfDay(what)) return OUTSIDE;
        if (cells.count == 0) return STATE;
        int found = sheets.rangeFault(sheet, lane, i, 2 * n);
        if (found != 0) return faulted(found);
        if (!areActs(sheet, i, n)) return OUTSIDE;
        trial.becomeLike(cells);
        int firstWrong = doActs(sheet, i, n);
        if (what == 1) return firstWrong;
        if (firstWrong != NONE) return -100 - firstWrong;
        return afterDay(what);
    }

    private static boolean isOfDay(int what) {
        return (what >= 0 && what <= 4) || (what >= 10 && what < 10 + MOST_CELLS);
    }

    private boolean areActs(int sheet, int i, int n) {
        for (int k = 0; k < n; k++) {
            int at = i + 2 * k;
            if (!isAct(sheets.at(sheet, at), sheets.at(sheet, at + 1))) return false;
        }
        return true;
    }

    private static boolean isAct(int first, int second) {
        if (second >= 10 && second < 10 + MOST_CELLS) return first >= LEAST_PRICE && first <= MOST_PRICE;
        boolean needs = second >= 0 && second < MOST_CELLS;
        return first == 0 && (needs || second == 20 || second == 21);
    }

    /** Does the acts to the trial CELLS: the FIRST WRONG, or NONE. */
    private int doActs(int sheet, int i, int n) {
        for (int k = 0; k < n; k++) {
            int at = i + 2 * k;
            if (!canDo(sheets.at(sheet, at), sheets.at(sheet, at + 1))) return k;
        }
        return NONE;
    }

    private boolean canDo(int first, int second) {
        if (second == 20) {
            trial.makeLinks();
            return true;
        }
        if (second == 21) {
            trial.putToSleep();
            return true;
        }
        boolean prices = second >= 10;
        int c = prices ? second - 10 : second;
        if (!trial.has(c)) return false;
        if (!prices) return trial.needAnew(c) <= CAME_TO_PAIR;
        trial.priceOf[c] = first;
        return true;
    }

    private int afterDay(int what) {
        switch (what) {
            case 0: return trial.spentSoFar;
            case 2: return trial.howManyAwake();
            case 3: return trial.howManyLinks();
            case 4: return trial.heldBy(1 << (trial.count - 1));
            default: return trial.has(what - 10) ? trial.cameTo[what - 10] : NONE;
        }
    }

    // ---- 3 what it costs

    public int reading(int cell, int c) {
        if (!cells.has(cell)) return UNKNOWN;
        if (c < 0 || c > DEAREST_READING) return OUTSIDE;
        return readings.add(cell, c);
    }

    public int back(int n) {
        if (n < 0 || n > readings.count) return OUTSIDE;
        readings.count -= n;
        return readings.count;
    }

    public int kinds(int c) {
        if (!cells.has(c)) return UNKNOWN;
        trial.becomeLike(cells);
        int set = 0;
        for (int kind = 0; kind < KINDS; kind++) {
            trial.kindOf[c] = kind;
            if (readings.areSo(trial)) set |= 1 << kind;
        }
        return set;
    }

    public int prices(int c) {
        if (!cells.has(c)) return UNKNOWN;
        trial.becomeLike(cells);
        int set = 0;
        for (int v = LEAST_PRICE; v <= MOST_PRICE; v++) {
            trial.priceOf[c] = v;
            if (readings.areSo(trial)) set |= 1 << v;
        }
        return set;
    }

    public long odds(int c, int number, int v, int which) {
        if (!cells.has(c) || !cells.has(number)) return LOST;
        if (cells.formOf[number] != NUMBER) return LOST;
        if (v < 0 || v > CAME_TO_WRONG || which < 0 || which > 1) return LOST;
        int upper = timesItComesTo(c, number, v);
        int common = commonWithTen(upper);
        return which == 0 ? upper / common : 10 / common;
    }

    /** How many of the NUMBERs 0 .. 9 let c come to v. */
    private int timesItComesTo(int c, int number, int v) {
        trial.becomeLike(cells);
        int times = 0;
        for (int is = 0; is <= 9; is++) {
            trial.putToSleep();
            trial.tellPart(number, 0, is);
            if (trial.needAnew(c) == v) times++;
        }
        return times;
    }

    private static int commonWithTen(int upper) {
        int common = 1;
        for (int d = 2; d <= 10; d++) {
            if (10 % d == 0 && upper % d == 0) common = d;
        }
        return common;
    }

    // ---- 4 sheets, parts

    public int sheet(int k, int lane, int n) {
        latestFault = 0;
        if (!sheets.has(k)) return UNKNOWN;
        if (!isLane(lane) || n > LONGEST_ROW) return OUTSIDE;
        if (n < 0) return faulted(SIZE);
        sheets.makeRow(k, lane, n);
        return 1;
    }

    public int lose(int k) {
        if (!sheets.has(k)) return UNKNOWN;
        int had = sheets.laneOf[k] == NOTHING ? 0 : 1;
        sheets.laneOf[k] = NOTHING;
        return had;
    }

    public int put(int k, int i, int v) {
        latestFault = 0;
        if (!sheets.has(k)) return UNKNOWN;
        int found = sheets.rangeFault(k, sheets.laneOf[k], i, 1);
        if (found != 0) return faulted(found);
        sheets.setCut(k, i, v);
        return 1;
    }

    public long cell(int k, int i, int lane) {
        latestFault = 0;
        if (!sheets.has(k) || !isLane(lane)) return LOST;
        latestFault = sheets.rangeFault(k, lane, i, 1);
        return latestFault == 0 ? sheets.at(k, i) : LOST;
    }

    public int copy(int k, int i, int other, int j, int n) {
        latestFault = 0;
        if (!sheets.has(k) || !sheets.has(other)) return UNKNOWN;
        int found = sheets.moveFault(k, i, other, j, n);
        if (found != 0) return faulted(found);
        sheets.move(k, i, other, j, n);
        return n;
    }

    public int tell(int c) {
        if (!cells.has(c)) return UNKNOWN;
        switch (cells.kindOf[c]) {
            case DOUBLE: return tellDouble(c);
            case DEAR: return tellDear(c);
            default: return tellPlain(c);
        }
    }

    private int tellPlain(int c) {
        leaveTrace(1);
        return cells.priceOf[c];
    }

    private int tellDear(int c) {
        leaveTrace(2);
        return tellPlain(c) + 100;
    }

    private int tellDouble(int c) {
        leaveTrace(3);
        int dear = tellDear(c);
        return dear + tellPlain(c);
    }

    public int point(int c) {
        if (!cells.has(c)) return UNKNOWN;
        boolean hasOwn = cells.kindOf[c] == DOUBLE;
        leaveTrace(hasOwn ? 5 : 4);
        return hasOwn ? 40 : c;
    }

    private void leaveTrace(int number) {
        traced = 31 * traced + number;
    }

    public int as(int c, int kind) {
        latestFault = 0;
        if (!cells.has(c)) return UNKNOWN;
        if (kind < 0 || kind >= KINDS) return OUTSIDE;
        // Each kind is also one of all the kinds ahead of it.
        return cells.kindOf[c] >= kind ? 1 : faulted(CAST);
    }

    public int trace() {
        return traced;
    }

    public int fault() {
        return latestFault;
    }

    public int many(int what) {
        switch (what) {
            case 0: return cells.count;
            case 1: return cells.howManyAwake();
            case 2: return cells.howManyLinks();
            case 3: return readings.count;
            default: return OUTSIDE;
        }
    }

    private int faulted(int which) {
        latestFault = which;
        return -10 - which;
    }

    private static boolean isLane(int lane) {
        return lane >= 0 && lane < LANES;
    }

    /** CELLS as they were told, how far they have been worked, and what the latest need did. */
    private static final class Cells {
        private int count;
        private final int[] kindOf = new int[MOST_CELLS];
        private final int[] priceOf = new int[MOST_CELLS];
        private final int[] formOf = new int[MOST_CELLS];
        private final int[] partOf = new int[MOST_CELLS * MOST_PARTS];
        /** NONE of one that is ASLEEP. */
        private final int[] cameTo = new int[MOST_CELLS];
        /** Of one that came to a PAIR: the CELL told as that PAIR. */
        private final int[] pairOf = new int[MOST_CELLS];
        private final int[] linkTo = new int[MOST_CELLS];
        private final boolean[] beingWorked = new boolean[MOST_CELLS];
        private boolean keeps = true;
        private int spentSoFar;
        private int worked;
        private int deep;
        private int workedCost;
        private int doneCount;
        private final int[] done = new int[MOST_CELLS];

        private Cells() {
            putToSleep();
        }

        private boolean has(int c) {
            return c >= 0 && c < count;
        }

        private boolean isAwake(int c) {
            return cameTo[c] != NONE;
        }

        private int formNow(int c) {
            return linkTo[c] == NONE ? formOf[c] : LINK;
        }

        private int partAsTold(int c, int k) {
            return k < HOW_MANY_PARTS[formOf[c]] ? partOf[c * MOST_PARTS + k] : NONE;
        }

        private void tellPart(int c, int k, int is) {
            partOf[c * MOST_PARTS + k] = is;
        }

        private int costOf(int c) {
            switch (kindOf[c]) {
                case DOUBLE: return 2 * priceOf[c];
                case DEAR: return priceOf[c] + 1;
                default: return priceOf[c];
            }
        }

        /** All but what the latest need did, which is told of need() alone. */
        private void becomeLike(Cells other) {
            count = other.count;
            System.arraycopy(other.kindOf, 0, kindOf, 0, MOST_CELLS);
            System.arraycopy(other.priceOf, 0, priceOf, 0, MOST_CELLS);
            System.arraycopy(other.formOf, 0, formOf, 0, MOST_CELLS);
            System.arraycopy(other.partOf, 0, partOf, 0, MOST_CELLS * MOST_PARTS);
            System.arraycopy(other.cameTo, 0, cameTo, 0, MOST_CELLS);
            System.arraycopy(other.pairOf, 0, pairOf, 0, MOST_CELLS);
            System.arraycopy(other.linkTo, 0, linkTo, 0, MOST_CELLS);
            spentSoFar = other.spentSoFar;
        }

        private void forgetAll() {
            count = 0;
            spentSoFar = 0;
            putToSleep();
        }

        private int firstLoose() {
            for (int c = 0; c < count; c++) {
                if (partSet(c) >= 1 << count) return c;
            }
            return NONE;
        }

        /** The PARTS as a set; a NUMBER has none. */
        private int partSet(int c) {
            if (formOf[c] == NUMBER) return 0;
            int set = 0;
            for (int k = 0; k < HOW_MANY_PARTS[formOf[c]]; k++) {
                set |= 1 << partAsTold(c, k);
            }
            return set;
        }

        private void putToSleep() {
            Arrays.fill(cameTo, NONE);
            Arrays.fill(pairOf, NONE);
            Arrays.fill(linkTo, NONE);
        }

        private int howManyAwake() {
            int awake = 0;
            for (int c = 0; c < count; c++) {
                if (isAwake(c)) awake++;
            }
            return awake;
        }

        private int howManyLinks() {
            int links = 0;
            for (int c = 0; c < count; c++) {
                if (linkTo[c] != NONE) links++;
            }
            return links;
        }

        private void startLatest() {
            worked = 0;
            deep = 0;
            workedCost = 0;
            doneCount = 0;
        }

        private int needAnew(int c) {
            startLatest();
            return comeTo(c, 1);
        }

        /** What is NEEDED, as one of depth CELLS that are then being WORKED. */
        private int comeTo(int c, int depth) {
            if (isAwake(c)) return cameTo[c];
            // As none is WORKED within itself, depth goes no further than there are CELLS.
            if (beingWorked[c] || depth > MOST_CELLS) return CAME_TO_LOOP;
            beingWorked[c] = true;
            worked++;
            deep = Math.max(deep, depth);
            payFor(c);
            int what = workOut(c, depth);
            beingWorked[c] = false;
            if (keeps) keep(c, what);
            return what;
        }

        private void payFor(int c) {
            if (linkTo[c] != NONE) return;
            workedCost += costOf(c);
            spentSoFar += costOf(c);
        }

        private void keep(int c, int what) {
            cameTo[c] = what;
            if (doneCount >= MOST_CELLS) return;
            done[doneCount] = c;
            doneCount++;
        }

        private int workOut(int c, int depth) {
            switch (formNow(c)) {
                case NUMBER: return partAsTold(c, 0);
                case SUM: case PRODUCT: return workOutBoth(c, depth);
                case CHOICE: return workOutChoice(c, depth);
                case PAIR:
                    pairOf[c] = c;
                    return CAME_TO_PAIR;
                case FIRST: case REST: return workOutOfPair(c, depth);
                default: return passOn(c, linkTo[c], depth);
            }
        }

        private int workOutBoth(int c, int depth) {
            int first = comeToNumber(partAsTold(c, 0), depth + 1);
            if (first >= CAME_TO_PAIR) return first;
            int second = comeToNumber(partAsTold(c, 1), depth + 1);
            if (second >= CAME_TO_PAIR) return second;
            return (formOf[c] == SUM ? first + second : first * second) % 100;
        }

        private int workOutChoice(int c, int depth) {
            int by = comeToNumber(partAsTold(c, 0), depth + 1);
            if (by >= CAME_TO_PAIR) return by;
            return passOn(c, partAsTold(c, by != 0 ? 1 : 2), depth);
        }

        /** A number, LOOP or WRONG: a PAIR is WRONG where a number is wanted, and nothing more is NEEDED then. */
        private int comeToNumber(int c, int depth) {
            int what = comeTo(c, depth);
            return what == CAME_TO_PAIR ? CAME_TO_WRONG : what;
        }

        private int workOutOfPair(int c, int depth) {
            int of = partAsTold(c, 0);
            int what = comeTo(of, depth + 1);
            if (what > CAME_TO_PAIR) return what;
            if (what < CAME_TO_PAIR) return CAME_TO_WRONG;
            return passOn(c, partOfPair(c, of), depth);
        }

        /** The PART that the FIRST or REST c takes of the PAIR that the CELL of came to. */
        private int partOfPair(int c, int of) {
            return partOf[pairOf[of] * MOST_PARTS + (formOf[c] == FIRST ? 0 : 1)];
        }

        /** c comes to what another one does; if that is a PAIR, it is that very PAIR. */
        private int passOn(int c, int other, int depth) {
            int what = comeTo(other, depth + 1);
            if (what == CAME_TO_PAIR) pairOf[c] = pairOf[other];
            return what;
        }

        /** One pass is enough: a LINK wakes nothing, so it makes no other one fit for it. */
        private int makeLinks() {
            int made = 0;
            for (int c = 0; c < count; c++) {
                if (!canBeLink(c)) continue;
                linkTo[c] = partOfPair(c, partAsTold(c, 0));
                made++;
            }
            return made;
        }

        private boolean canBeLink(int c) {
            int form = formNow(c);
            if (isAwake(c) || (form != FIRST && form != REST)) return false;
            return cameTo[partAsTold(c, 0)] == CAME_TO_PAIR;
        }

        private int heldBy(int set) {
            int held = set & ((1 << count) - 1);
            // Each round that is not the last adds a CELL at least.
            for (int round = 0; round <= MOST_CELLS; round++) {
                int before = held;
                for (int c = 0; c < count; c++) {
                    if ((held >> c & 1) == 1) held |= heldDirectly(c);
                }
                if (held == before) break;
            }
            return held;
        }

        private int heldDirectly(int c) {
            if (!isAwake(c)) return linkTo[c] == NONE ? partSet(c) : 1 << linkTo[c];
            return cameTo[c] == CAME_TO_PAIR ? partSet(pairOf[c]) : 0;
        }

        /** PLAINLY; without keeping, one that is NEEDED while it is being WORKED would never end. */
        private int timesPlainly(int c) {
            putToSleep();
            keeps = false;
            int what = needAnew(c);
            keeps = true;
            return what == CAME_TO_LOOP || worked > MOST_TIMES ? NONE : worked;
        }

        private int costFromAsleep(int c) {
            putToSleep();
            needAnew(c);
            return workedCost;
        }
    }

    /** Reads a TEXT code by code, so that the first code with which none goes on shows itself. */
    private static final class TextReader {
        private static final int AT_START = 0, AT_SEMICOLON = 1, AT_KIND = 2, AT_PRICE = 3, AT_SIGN = 4, AT_PART = 5;

        private int stage;
        private int part;

        /** Makes the TEXT's CELLS anew: the FIRST FAULT, or NONE. */
        private int readInto(Cells cells, Sheets sheets, int sheet, int from, int n) {
            cells.forgetAll();
            stage = AT_START;
            for (int k = 0; k < n; k++) {
                if (!goesOn(cells, sheets.at(sheet, from + k))) return k;
            }
            return stage == AT_SEMICOLON && cells.count > 0 ? NONE : n;
        }

        private boolean goesOn(Cells cells, int code) {
            int c = cells.count;
            switch (stage) {
                case AT_START:
                    stage = AT_SEMICOLON;
                    return code == 'l';
                case AT_SEMICOLON:
                    stage = AT_KIND;
                    return code == ';' && c < MOST_CELLS;
                case AT_KIND: return takesKind(cells, c, code);
                case AT_PRICE: return takesPrice(cells, c, code);
                case AT_SIGN: return takesSign(cells, c, code);
                default: return takesPart(cells, c, code);
            }
        }

        private boolean takesKind(Cells cells, int c, int code) {
            int kind = placeIn(KIND_LETTERS, code);
            if (kind == NONE) return false;
            cells.kindOf[c] = kind;
            stage = AT_PRICE;
            return true;
        }

        private boolean takesPrice(Cells cells, int c, int code) {
            if (code < '0' + LEAST_PRICE || code > '0' + MOST_PRICE) return false;
            cells.priceOf[c] = code - '0';
            stage = AT_SIGN;
            return true;
        }

        private boolean takesSign(Cells cells, int c, int code) {
            int form = placeIn(FORM_SIGNS, code);
            if (form == NONE) return false;
            cells.formOf[c] = form;
            part = 0;
            stage = AT_PART;
            return true;
        }

        private boolean takesPart(Cells cells, int c, int code) {
            char most = cells.formOf[c] == NUMBER ? '9' : '7';
            if (code < '0' || code > most) return false;
            cells.tellPart(c, part, code - '0');
            part++;
            if (part == HOW_MANY_PARTS[cells.formOf[c]]) {
                cells.count = c + 1;
                stage = AT_SEMICOLON;
            }
            return true;
        }

        private static int placeIn(char[] letters, int code) {
            for (int k = 0; k < letters.length; k++) {
                if (letters[k] == code) return k;
            }
            return NONE;
        }
    }

    /** READINGS, that the last ones can be taken back from by their count alone. */
    private static final class Readings {
        private int count;
        private final int[] cellOf = new int[MOST_READINGS];
        private final int[] costOf = new int[MOST_READINGS];

        private int add(int c, int cost) {
            if (count >= MOST_READINGS) return FULL;
            cellOf[count] = c;
            costOf[count] = cost;
            count++;
            return count - 1;
        }

        private boolean areSo(Cells trial) {
            for (int k = 0; k < count; k++) {
                if (trial.costFromAsleep(cellOf[k]) != costOf[k]) return false;
            }
            return true;
        }
    }

    /** Rows that are made once, as long as any may be, and used again. */
    private static final class Sheets {
        private final int[][] rows = new int[SHEETS][LONGEST_ROW];
        /** NOTHING of a SHEET that has nothing. */
        private final int[] laneOf = {NOTHING, NOTHING, NOTHING, NOTHING};
        private final int[] lengthOf = new int[SHEETS];

        private boolean has(int k) {
            return k >= 0 && k < SHEETS;
        }

        private int at(int k, int i) {
            return rows[k][i];
        }

        private void makeRow(int k, int lane, int n) {
            laneOf[k] = lane;
            lengthOf[k] = n;
            Arrays.fill(rows[k], 0);
        }

        private void setCut(int k, int i, int v) {
            switch (laneOf[k]) {
                case 0: rows[k][i] = (byte) v; break;
                case 1: rows[k][i] = (short) v; break;
                default: rows[k][i] = v; break;
            }
        }

        /** The first FAULT of taking n cells from i on out of a row of a LANE, or 0. */
        private int rangeFault(int k, int lane, int i, int n) {
            if (laneOf[k] == NOTHING) return NULL;
            if (laneOf[k] != lane) return CAST;
            if (n < 0) return SIZE;
            return isRange(k, i, n) ? 0 : INDEX;
        }

        private boolean isRange(int k, int i, int n) {
            return i >= 0 && i <= lengthOf[k] && n >= 0 && n <= lengthOf[k] - i;
        }

        private int moveFault(int k, int i, int other, int j, int n) {
            if (laneOf[k] == NOTHING || laneOf[other] == NOTHING) return NULL;
            if (laneOf[k] != laneOf[other]) return CAST;
            return isRange(k, i, n) && isRange(other, j, n) ? 0 : INDEX;
        }

        private void move(int k, int i, int other, int j, int n) {
            System.arraycopy(rows[k], i, rows[other], j, n);
        }
    }
}
