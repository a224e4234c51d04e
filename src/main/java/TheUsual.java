/** A shop whose keeper knows her regulars. DOC.md says, promise by promise, what each call answers. */
public final class TheUsual {
    public static final int BAD = -1, FULL = -2, FINDING = -3, STATE = -4, SPENT = -6, NONE = -9;

    private static final int NOTHING = 1, BEYOND = 2, UNLIKE = 3, NOUGHT = 4, SIZE = 5;
    private static final int REGULAR = 0, SILENT = 1, CHANGER = 2, HURRIED = 3, SHY = 4, FRIDAY = 5;

    private static final int ROWS = 6, MOST_INTS = 40, TEXTS = 4, MOST_BYTES = 60, KEPT_SHOPS = 3;
    private static final int MOST_REGULARS = 6, KINDS = 6, THINGS = 6, SIGNS = 4, FACTS = 9, COUNTS = 10;
    private static final int MOST_TURNS = 60, MOST_SECONDS = 9999, LAST_MORNING = 999;
    private static final int MOST_PAIRS = 8, LAST_COMING = 999, MOST_FINDINGS = 5;
    private static final int MOST_COMERS = 3, MOST_LOTS = 20, SECONDS_PER_LOT = 70;
    private static final long LOT_FACTOR = 48271, LOT_MODULUS = 2147483647;

    private static final int LAID_SECONDS = 9, ASKED_SECONDS = 40, KNOWN_SECONDS = 30;
    private static final int BLANK = 32, ITEM_SIZE = 6, NOUGHT_SIGN = 48;

    /** The letters of the kinds, by kind. */
    private static final int[] LETTERS = {114, 115, 99, 104, 121, 102};
    /** The least and the greatest figure at each place of an item; at its first place stands a letter. */
    private static final int[] LEAST_FIGURES = {0, 0, 0, 0, 0, 1};
    private static final int[] GREATEST_FIGURES = {0, 3, 3, 5, 5, 9};

    /** What a check answers if nothing is refused; no refusal is 0. */
    private static final int FINE = 0;

    private final int[][] rows = new int[ROWS][MOST_INTS];
    private final int[] rowSizes = new int[ROWS];
    private final byte[][] texts = new byte[TEXTS][MOST_BYTES];
    private final int[] textSizes = new int[TEXTS];
    private final Shop now = new Shop();
    private final Kept[] places = new Kept[KEPT_SHOPS];
    private final Line line = new Line();
    private final int[] findingCounts = new int[MOST_FINDINGS + 1];
    private int latestFinding = 0;
    private int lastAsked = 0;
    private long lastUpper = 0;
    private long lastLower = 1;

    public TheUsual() {
        for (int r = 0; r < ROWS; r++) {
            rowSizes[r] = -1;
        }
        for (int t = 0; t < TEXTS; t++) {
            textSizes[t] = -1;
        }
        for (int k = 0; k < KEPT_SHOPS; k++) {
            places[k] = new Kept();
        }
    }

    // ---- 1 rows, texts, shops

    public int row(int r, int n) {
        if (!isRow(r) || n > MOST_INTS) {
            return BAD;
        }
        if (n < 0) {
            return found(SIZE);
        }
        makeRow(r, n);
        return n;
    }

    public int lay(int r, int i, int v) {
        int refusal = placeRefusal(r, i);
        if (refusal != FINE) {
            return refusal;
        }
        lastAsked = rows[r][i];
        rows[r][i] = v;
        return 1;
    }

    public int at(int r, int i) {
        int refusal = placeRefusal(r, i);
        if (refusal != FINE) {
            return refusal;
        }
        lastAsked = rows[r][i];
        return 1;
    }

    public int tear(int r) {
        int refusal = rowRefusal(r);
        if (refusal != FINE) {
            return refusal;
        }
        rowSizes[r] = -1;
        return 1;
    }

    public int copy(int r, int i, int to, int j, int n) {
        if (!isRow(r) || !isRow(to)) {
            return BAD;
        }
        if (n < 0) {
            return found(SIZE);
        }
        if (rowSizes[r] < 0 || rowSizes[to] < 0) {
            return found(NOTHING);
        }
        // The sizes less n, not the places and n: these could go beyond an int.
        if (i < 0 || j < 0 || i > rowSizes[r] - n || j > rowSizes[to] - n) {
            return found(BEYOND);
        }
        System.arraycopy(rows[r], i, rows[to], j, n);
        return 1;
    }

    public int mean(int r) {
        int refusal = rowRefusal(r);
        if (refusal != FINE) {
            return refusal;
        }
        if (rowSizes[r] == 0) {
            return found(NOUGHT);
        }
        long sum = 0;
        for (int i = 0; i < rowSizes[r]; i++) {
            sum += rows[r][i];
        }
        lastAsked = (int) (sum / rowSizes[r]);
        return 1;
    }

    public int text(int t, int n) {
        if (!isText(t) || n > MOST_BYTES) {
            return BAD;
        }
        if (n < 0) {
            return found(SIZE);
        }
        for (int i = 0; i < n; i++) {
            texts[t][i] = BLANK;
        }
        textSizes[t] = n;
        return n;
    }

    public int put(int t, int i, int v) {
        int refusal = textRefusal(t);
        if (refusal != FINE) {
            return refusal;
        }
        if (i < 0 || i >= textSizes[t]) {
            return found(BEYOND);
        }
        int was = texts[t][i];
        texts[t][i] = (byte) v;
        return was + 1000;
    }

    public int fault(int t) {
        int refusal = textRefusal(t);
        if (refusal != FINE) {
            return refusal;
        }
        return faultOf(texts[t], textSizes[t]);
    }

    public int shop(int t) {
        int refusal = textRefusal(t);
        if (refusal != FINE) {
            return refusal;
        }
        if (faultOf(texts[t], textSizes[t]) != NONE) {
            return STATE;
        }
        now.open(texts[t], textSizes[t]);
        for (int k = 0; k < KEPT_SHOPS; k++) {
            places[k].there = false;
        }
        return now.size;
    }

    public int regular(int p, int what) {
        if (!isRegular(p) || what < 0 || what >= FACTS) {
            return BAD;
        }
        lastAsked = now.factOf(p, what);
        return 1;
    }

    public int mark(int p, int kind) {
        if (!isRegular(p) || kind <= REGULAR || kind >= KINDS) {
            return BAD;
        }
        Regular one = now.regulars[p];
        if (!one.isOf(kind)) {
            return found(UNLIKE);
        }
        switch (kind) {
            case SILENT:
                return one.souringThings(now.day);
            case CHANGER:
                return one.morningsToChange(now.day);
            case HURRIED:
                return one.wrongSeconds();
            case SHY:
                return Integer.bitCount(now.thoseWhoLook(one.hat, one.step)) - 1;
            default:
                return one.otherMornings(10);
        }
    }

    public int other(int p, int thing) {
        if (!isRegular(p) || !isThing(thing)) {
            return BAD;
        }
        if (now.turns.size > 0) {
            return STATE;
        }
        int was = now.regulars[p].otherThing;
        now.regulars[p].otherThing = thing;
        return was;
    }

    // ---- 2 turns

    public int serve(int p, int thing) {
        if (!isRegular(p) || !isThingOrNone(thing)) {
            return BAD;
        }
        if (now.seconds + now.regulars[p].secondsFor(thing, now.day) > MOST_SECONDS) {
            return STATE;
        }
        if (now.turns.size >= MOST_TURNS) {
            return FULL;
        }
        return now.serveOne(p, thing);
    }

    public int morning() {
        if (now.size == 0) {
            return STATE;
        }
        if (now.turns.size >= MOST_TURNS) {
            return FULL;
        }
        now.beginMorning();
        return now.day;
    }

    public int undo(int n) {
        if (n < 0 || n > now.turns.size) {
            return BAD;
        }
        int undone = now.turns.size - n;
        now.goThrough(n);
        return undone;
    }

    public int keep(int k) {
        if (!isPlace(k)) {
            return BAD;
        }
        if (now.size == 0) {
            return STATE;
        }
        places[k].takeFrom(now);
        return now.turns.size;
    }

    public int on(int k) {
        if (!isPlace(k)) {
            return BAD;
        }
        if (!places[k].there) {
            return found(NOTHING);
        }
        places[k].giveTo(now);
        return now.turns.size;
    }

    // ---- 3 who is that, what does it want

    public int who(int hat, int step) {
        if (!isSign(hat) || !isSign(step)) {
            return BAD;
        }
        return now.thoseWhoLook(hat, step);
    }

    public int parts(int p, int q) {
        if (!areTwo(p, q)) {
            return BAD;
        }
        int byHat = now.regulars[p].hat != now.regulars[q].hat ? 1 : 0;
        int byStep = now.regulars[p].step != now.regulars[q].step ? 2 : 0;
        return byHat + byStep;
    }

    public int wants(int p, int m) {
        if (!isRegular(p) || !isMorning(m)) {
            return BAD;
        }
        return now.regulars[p].wantOn(m);
    }

    public int likely(int hat, int step, int thing) {
        if (!isSign(hat) || !isSign(step) || !isThing(thing)) {
            return BAD;
        }
        int set = now.thoseWhoLook(hat, step);
        if (set == 0) {
            return found(NOUGHT);
        }
        tell(now.comingsThatWant(set, thing), now.comingsOf(set));
        return 1;
    }

    public int takes(int hat, int step, int thing) {
        if (!isSign(hat) || !isSign(step) || !isThingOrNone(thing)) {
            return BAD;
        }
        int set = now.thoseWhoLook(hat, step);
        if (set == 0) {
            return found(NOUGHT);
        }
        tell(now.secondsOf(set, thing), now.comingsOf(set));
        return 1;
    }

    public int quickest(int hat, int step) {
        if (!isSign(hat) || !isSign(step)) {
            return BAD;
        }
        int set = now.thoseWhoLook(hat, step);
        if (set == 0) {
            return found(NOUGHT);
        }
        int thing = now.quickestFor(set);
        lastAsked = Integer.bitCount(now.souredBy(set, thing));
        return thing;
    }

    // ---- 4 queues (aside)

    public int queue(int r) {
        int refusal = queueRefusal(r);
        if (refusal != FINE) {
            return refusal;
        }
        line.walk(now.regulars, rows[r], rowSizes[r], MOST_SECONDS);
        lastAsked = line.gone;
        return line.left;
    }

    public int by(int r, int second) {
        if (second < 0 || second > MOST_SECONDS) {
            return BAD;
        }
        int refusal = queueRefusal(r);
        if (refusal != FINE) {
            return refusal;
        }
        line.walk(now.regulars, rows[r], rowSizes[r], second);
        return line.servedInTime;
    }

    public int order(int r) {
        if (!isRow(r)) {
            return BAD;
        }
        if (now.size == 0) {
            return STATE;
        }
        makeRow(r, now.size);
        // All wait least if the short servings come first; there are but two lengths of them.
        int known = lineUp(r, 0, true);
        lineUp(r, known, false);
        int waited = 0;
        int gone = 0;
        for (int i = 0; i < now.size; i++) {
            waited += gone;
            gone += i < known ? LAID_SECONDS : ASKED_SECONDS;
        }
        return waited;
    }

    public int learn(int n) {
        if (n < 0 || n > MOST_REGULARS) {
            return BAD;
        }
        if (n > now.size) {
            return STATE;
        }
        // The first n are the least set of n: what comes behind it must be better to be taken.
        int best = (1 << n) - 1;
        int fewest = now.weekWith(best);
        for (int set = best + 1; set < 1 << now.size; set++) {
            int week = now.weekWith(set);
            if (Integer.bitCount(set) == n && week < fewest) {
                best = set;
                fewest = week;
            }
        }
        lastAsked = fewest;
        return best;
    }

    // ---- 5 books

    public int fits(int r) {
        int refusal = bookRefusal(r);
        if (refusal != FINE) {
            return refusal;
        }
        int set = 0;
        for (int p = 0; p < now.size; p++) {
            if (liesOf(p, r) == 0) {
                set |= 1 << p;
            }
        }
        return set;
    }

    public int kinds(int r, int usual, int other) {
        if (!isThing(usual) || !isThing(other)) {
            return BAD;
        }
        int refusal = bookRefusal(r);
        if (refusal != FINE) {
            return refusal;
        }
        int set = 0;
        for (int kind = 0; kind < KINDS; kind++) {
            if (unlikeSales(rows[r], rowSizes[r], kind, usual, other) == 0) {
                set |= 1 << kind;
            }
        }
        return set;
    }

    public int lies(int r) {
        if (!isRow(r)) {
            return BAD;
        }
        if (now.size == 0) {
            return STATE;
        }
        int refusal = bookRefusal(r);
        if (refusal != FINE) {
            return refusal;
        }
        int whose = 0;
        for (int p = 1; p < now.size; p++) {
            if (liesOf(p, r) < liesOf(whose, r)) {
                whose = p;
            }
        }
        lastAsked = whose;
        return liesOf(whose, r);
    }

    public int apart(int p, int q, int from, int to) {
        if (!areTwo(p, q) || !isMorning(from) || !isMorning(to) || to < from) {
            return BAD;
        }
        for (int m = from; m <= to; m++) {
            if (now.regulars[p].wantOn(m) != now.regulars[q].wantOn(m)) {
                return m;
            }
        }
        return NONE;
    }

    // ---- 6 chances, lots

    public int sour(int thing) {
        if (!isThing(thing)) {
            return BAD;
        }
        lastAsked = now.souredBy(now.everybody(), thing);
        return Integer.bitCount(lastAsked);
    }

    public int odds(int n) {
        if (n < 1 || n > MOST_COMERS) {
            return BAD;
        }
        if (now.size == 0) {
            return STATE;
        }
        int all = now.everybody();
        long alike = 0;
        for (int thing = 0; thing < THINGS; thing++) {
            alike += power(now.comingsThatWant(all, thing), n);
        }
        tell(alike, power(now.comingsOf(all), n));
        return 1;
    }

    public int lots(int n, int seed) {
        if (n < 1 || n > MOST_LOTS || seed < 1 || seed >= LOT_MODULUS) {
            return BAD;
        }
        if (now.size == 0 || now.seconds + SECONDS_PER_LOT * n > MOST_SECONDS) {
            return STATE;
        }
        if (now.turns.size + n > MOST_TURNS) {
            return FULL;
        }
        long lot = seed;
        int sum = 0;
        for (int i = 0; i < n; i++) {
            lot = lot * LOT_FACTOR % LOT_MODULUS;
            int p = (int) (lot % now.size);
            int alike = now.thoseWhoLook(now.regulars[p].hat, now.regulars[p].step);
            sum += now.serveOne(p, now.quickestFor(alike));
        }
        return sum;
    }

    // ---- 7 what is told

    public int asked() {
        return lastAsked;
    }

    public long upper() {
        return lastUpper;
    }

    public long lower() {
        return lastLower;
    }

    public int count(int what) {
        switch (what) {
            case 0:
                return now.size;
            case 1:
                return now.day;
            case 2:
                return now.seconds;
            case 3:
                return now.turns.size;
            case 4:
                return now.knownOnes();
            case 5:
                return now.soursOfAll();
            case 6:
                return now.silentOnes();
            case 7:
                return thoseThere(rowSizes);
            case 8:
                return thoseThere(textSizes);
            case 9:
                return shopsKept();
            default:
                return BAD;
        }
    }

    public int finding() {
        return latestFinding;
    }

    public int findings(int f) {
        if (f < 1 || f > MOST_FINDINGS) {
            return BAD;
        }
        return findingCounts[f];
    }

    public long digest() {
        long h = 17;
        for (int what = 0; what < COUNTS; what++) {
            h = 31 * h + count(what);
        }
        for (int p = 0; p < now.size; p++) {
            for (int what = 0; what < FACTS; what++) {
                h = 31 * h + now.factOf(p, what);
            }
        }
        for (int k = 0; k < KEPT_SHOPS; k++) {
            h = 31 * h + (places[k].there ? places[k].turns.size : -1);
        }
        for (int r = 0; r < ROWS; r++) {
            h = 31 * h + rowSizes[r];
            for (int i = 0; i < rowSizes[r]; i++) {
                h = 31 * h + rows[r][i];
            }
        }
        for (int t = 0; t < TEXTS; t++) {
            h = 31 * h + textSizes[t];
            for (int i = 0; i < textSizes[t]; i++) {
                h = 31 * h + texts[t][i];
            }
        }
        return h;
    }

    // ---- numbers that are what they should be

    private static boolean isRow(int r) {
        return r >= 0 && r < ROWS;
    }

    private static boolean isText(int t) {
        return t >= 0 && t < TEXTS;
    }

    private static boolean isPlace(int k) {
        return k >= 0 && k < KEPT_SHOPS;
    }

    private static boolean isThing(int thing) {
        return thing >= 0 && thing < THINGS;
    }

    private static boolean isThingOrNone(int thing) {
        return thing == NONE || isThing(thing);
    }

    private static boolean isSign(int sign) {
        return sign == NONE || sign >= 0 && sign < SIGNS;
    }

    private static boolean isMorning(int m) {
        return m >= 0 && m <= LAST_MORNING;
    }

    private boolean isRegular(int p) {
        return p >= 0 && p < now.size;
    }

    private boolean areTwo(int p, int q) {
        return isRegular(p) && isRegular(q) && p != q;
    }

    // ---- refusals

    private int found(int f) {
        latestFinding = f;
        findingCounts[f]++;
        return FINDING;
    }

    private int rowRefusal(int r) {
        if (!isRow(r)) {
            return BAD;
        }
        return rowSizes[r] < 0 ? found(NOTHING) : FINE;
    }

    private int placeRefusal(int r, int i) {
        int refusal = rowRefusal(r);
        if (refusal != FINE) {
            return refusal;
        }
        return i < 0 || i >= rowSizes[r] ? found(BEYOND) : FINE;
    }

    private int textRefusal(int t) {
        if (!isText(t)) {
            return BAD;
        }
        return textSizes[t] < 0 ? found(NOTHING) : FINE;
    }

    private int queueRefusal(int r) {
        if (!isRow(r)) {
            return BAD;
        }
        if (now.size == 0) {
            return STATE;
        }
        if (rowSizes[r] < 0) {
            return found(NOTHING);
        }
        if (rowSizes[r] % 2 != 0 || rowSizes[r] > 2 * MOST_PAIRS) {
            return found(SIZE);
        }
        return isQueue(rows[r], rowSizes[r]) ? FINE : found(UNLIKE);
    }

    private int bookRefusal(int r) {
        int refusal = rowRefusal(r);
        if (refusal != FINE) {
            return refusal;
        }
        if (rowSizes[r] % 2 != 0) {
            return found(SIZE);
        }
        return isBook(rows[r], rowSizes[r]) ? FINE : found(UNLIKE);
    }

    private boolean isQueue(int[] row, int size) {
        int earliest = 0;
        for (int i = 0; i + 1 < size; i += 2) {
            if (!isRegular(row[i]) || row[i + 1] < earliest || row[i + 1] > LAST_COMING) {
                return false;
            }
            earliest = row[i + 1];
        }
        return true;
    }

    private static boolean isBook(int[] row, int size) {
        for (int i = 0; i + 1 < size; i += 2) {
            if (!isMorning(row[i]) || !isThing(row[i + 1])) {
                return false;
            }
        }
        return true;
    }

    // ---- rows, books, what is told

    private void makeRow(int r, int n) {
        for (int i = 0; i < n; i++) {
            rows[r][i] = 0;
        }
        rowSizes[r] = n;
    }

    /** Writes those who are known, or those who are not, into a row from a place on; answers the place behind them. */
    private int lineUp(int r, int from, boolean known) {
        int next = from;
        for (int p = 0; p < now.size; p++) {
            if (now.regulars[p].isKnown() == known) {
                rows[r][next] = p;
                next++;
            }
        }
        return next;
    }

    private int liesOf(int p, int r) {
        Regular one = now.regulars[p];
        return unlikeSales(rows[r], rowSizes[r], one.kind, one.usual, one.otherThing);
    }

    private static int unlikeSales(int[] book, int size, int kind, int usual, int otherThing) {
        int unlike = 0;
        for (int i = 0; i + 1 < size; i += 2) {
            int want = wantsOther(kind, book[i]) ? otherThing : usual;
            if (want != book[i + 1]) {
                unlike++;
            }
        }
        return unlike;
    }

    private static int thoseThere(int[] sizes) {
        int there = 0;
        for (int size : sizes) {
            if (size >= 0) {
                there++;
            }
        }
        return there;
    }

    private int shopsKept() {
        int there = 0;
        for (int k = 0; k < KEPT_SHOPS; k++) {
            if (places[k].there) {
                there++;
            }
        }
        return there;
    }

    /** Tells a number by a number above 0, in lowest terms. */
    private void tell(long high, long low) {
        long divisor = commonDivisor(high, low);
        if (divisor > 0) {
            lastUpper = high / divisor;
            lastLower = low / divisor;
        }
    }

    private static long commonDivisor(long a, long b) {
        long high = a;
        long low = b;
        // Two steps at least halve a number: 200 are more than longs can need.
        for (int i = 0; i < 200 && low != 0; i++) {
            long rest = high % low;
            high = low;
            low = rest;
        }
        return high;
    }

    private static long power(long base, int n) {
        long product = 1;
        for (int i = 0; i < n; i++) {
            product *= base;
        }
        return product;
    }

    // ---- the small language

    private static int faultOf(byte[] text, int size) {
        int items = 0;
        int i = 0;
        while (i < size) {
            if (text[i] == BLANK) {
                i++;
                continue;
            }
            if (items == MOST_REGULARS) {
                return i;
            }
            int fault = itemFault(text, size, i);
            if (fault != NONE) {
                return fault;
            }
            items++;
            i += ITEM_SIZE;
        }
        return items == 0 ? size : NONE;
    }

    private static int itemFault(byte[] text, int size, int from) {
        for (int place = 0; place < ITEM_SIZE; place++) {
            int i = from + place;
            if (i >= size || !mayStand(text[i], place)) {
                return i;
            }
        }
        return NONE;
    }

    private static boolean mayStand(int sign, int place) {
        if (place == 0) {
            return kindOf(sign) != NONE;
        }
        int figure = sign - NOUGHT_SIGN;
        return figure >= LEAST_FIGURES[place] && figure <= GREATEST_FIGURES[place];
    }

    private static int kindOf(int letter) {
        for (int kind = 0; kind < KINDS; kind++) {
            if (LETTERS[kind] == letter) {
                return kind;
            }
        }
        return NONE;
    }

    // ---- what kinds are like

    /** Whether one of a kind wants its other thing on a morning, not its usual. */
    private static boolean wantsOther(int kind, int m) {
        switch (kind) {
            case CHANGER:
                return m >= 3;
            case FRIDAY:
                return m % 5 == 4 ? m < 3 : m >= 3;
            case SHY:
                return m % 2 == 1;
            default:
                return false;
        }
    }

    /** One regular. */
    private static final class Regular {
        int kind, hat, step, usual, otherThing, comes;
        int servings, sours;

        /** Reads an item that has no fault, from its letter on. */
        void become(byte[] text, int i) {
            kind = kindOf(text[i]);
            hat = text[i + 1] - NOUGHT_SIGN;
            step = text[i + 2] - NOUGHT_SIGN;
            usual = text[i + 3] - NOUGHT_SIGN;
            otherThing = text[i + 4] - NOUGHT_SIGN;
            comes = text[i + 5] - NOUGHT_SIGN;
        }

        boolean isOf(int of) {
            return kind == of || of == REGULAR || kind == SHY && of == SILENT || kind == FRIDAY && of == CHANGER;
        }

        boolean isKnown() {
            return servings >= 2;
        }

        boolean looks(int hatSeen, int stepSeen) {
            return (hatSeen == NONE || hatSeen == hat) && (stepSeen == NONE || stepSeen == step);
        }

        int wantOn(int m) {
            return wantsOther(kind, m) ? otherThing : usual;
        }

        int patience() {
            return isOf(HURRIED) ? 20 : 60;
        }

        int askingSeconds() {
            return isKnown() ? KNOWN_SECONDS : ASKED_SECONDS;
        }

        int wrongSeconds() {
            return LAID_SECONDS + askingSeconds() + (isOf(HURRIED) ? 20 : 10);
        }

        boolean isSouredBy(int thing, int m) {
            return isOf(SILENT) && thing != NONE && thing != wantOn(m);
        }

        int secondsFor(int thing, int m) {
            if (thing == NONE) {
                return askingSeconds();
            }
            return thing == wantOn(m) || isOf(SILENT) ? LAID_SECONDS : wrongSeconds();
        }

        int souringThings(int m) {
            int souring = 0;
            for (int thing = 0; thing < THINGS; thing++) {
                if (isSouredBy(thing, m)) {
                    souring++;
                }
            }
            return souring;
        }

        int morningsToChange(int m) {
            for (int ahead = 1; ahead <= 9; ahead++) {
                if (wantOn(m + ahead) != wantOn(m)) {
                    return ahead;
                }
            }
            return NONE;
        }

        /** On how many of the first mornings it wants the thing that is its other one. */
        int otherMornings(int mornings) {
            int wanted = 0;
            for (int m = 0; m < mornings; m++) {
                if (wantOn(m) == otherThing) {
                    wanted++;
                }
            }
            return wanted;
        }
    }

    /** The turns of a shop: who was served, and what was laid out; NONE for who: a morning began. */
    private static final class Turns {
        final int[] who = new int[MOST_TURNS];
        final int[] laid = new int[MOST_TURNS];
        int size;

        void write(int p, int thing) {
            if (size < MOST_TURNS) {
                who[size] = p;
                laid[size] = thing;
                size++;
            }
        }

        void takeFrom(Turns from) {
            System.arraycopy(from.who, 0, who, 0, from.size);
            System.arraycopy(from.laid, 0, laid, 0, from.size);
            size = from.size;
        }
    }

    /** The shop as it is now: its regulars, and where its turns have led. */
    private static final class Shop {
        final Regular[] regulars = new Regular[MOST_REGULARS];
        final Turns turns = new Turns();
        int size, day, seconds;

        Shop() {
            for (int p = 0; p < MOST_REGULARS; p++) {
                regulars[p] = new Regular();
            }
        }

        /** Opens by a text that has no fault. */
        void open(byte[] text, int length) {
            size = 0;
            int i = 0;
            while (i + ITEM_SIZE <= length && size < MOST_REGULARS) {
                if (text[i] == BLANK) {
                    i++;
                    continue;
                }
                regulars[size].become(text, i);
                size++;
                i += ITEM_SIZE;
            }
            goThrough(0);
        }

        /** Begins anew and goes through the first turns; those behind them are gone. */
        void goThrough(int n) {
            day = 0;
            seconds = 0;
            for (int p = 0; p < size; p++) {
                regulars[p].servings = 0;
                regulars[p].sours = 0;
            }
            turns.size = Math.min(n, turns.size);
            for (int i = 0; i < turns.size; i++) {
                happen(turns.who[i], turns.laid[i]);
            }
        }

        int serveOne(int p, int thing) {
            turns.write(p, thing);
            return happen(p, thing);
        }

        void beginMorning() {
            turns.write(NONE, NONE);
            happen(NONE, NONE);
        }

        /** What a turn does to the shop; answers the seconds that it takes. */
        private int happen(int p, int thing) {
            if (p < 0 || p >= size) {
                day++;
                seconds = 0;
                return 0;
            }
            Regular one = regulars[p];
            int taken = one.secondsFor(thing, day);
            if (one.isSouredBy(thing, day)) {
                one.sours++;
            }
            one.servings++;
            seconds += taken;
            return taken;
        }

        int factOf(int p, int what) {
            Regular one = regulars[p];
            switch (what) {
                case 0:
                    return one.kind;
                case 1:
                    return one.hat;
                case 2:
                    return one.step;
                case 3:
                    return one.usual;
                case 4:
                    return one.otherThing;
                case 5:
                    return one.comes;
                case 6:
                    return one.servings;
                case 7:
                    return one.sours;
                default:
                    return one.wantOn(day);
            }
        }

        int everybody() {
            return (1 << size) - 1;
        }

        int thoseWhoLook(int hat, int step) {
            int set = 0;
            for (int p = 0; p < size; p++) {
                if (regulars[p].looks(hat, step)) {
                    set |= 1 << p;
                }
            }
            return set;
        }

        int souredBy(int set, int thing) {
            int soured = 0;
            for (int p = 0; p < size; p++) {
                if (isIn(set, p) && regulars[p].isSouredBy(thing, day)) {
                    soured |= 1 << p;
                }
            }
            return soured;
        }

        int comingsOf(int set) {
            int sum = 0;
            for (int p = 0; p < size; p++) {
                if (isIn(set, p)) {
                    sum += regulars[p].comes;
                }
            }
            return sum;
        }

        int comingsThatWant(int set, int thing) {
            int sum = 0;
            for (int p = 0; p < size; p++) {
                if (isIn(set, p) && regulars[p].wantOn(day) == thing) {
                    sum += regulars[p].comes;
                }
            }
            return sum;
        }

        /** The seconds that all of a set take, each as often as it comes. */
        int secondsOf(int set, int thing) {
            int sum = 0;
            for (int p = 0; p < size; p++) {
                if (isIn(set, p)) {
                    sum += regulars[p].comes * regulars[p].secondsFor(thing, day);
                }
            }
            return sum;
        }

        int quickestFor(int set) {
            int best = NONE;
            for (int thing = 0; thing < THINGS; thing++) {
                if (secondsOf(set, thing) < secondsOf(set, best)) {
                    best = thing;
                }
            }
            return best;
        }

        /** The seconds of a week in which a set has been learnt. */
        int weekWith(int set) {
            int sum = 0;
            for (int p = 0; p < size; p++) {
                sum += regulars[p].comes * (isIn(set, p) ? LAID_SECONDS : ASKED_SECONDS);
            }
            return sum;
        }

        int knownOnes() {
            int known = 0;
            for (int p = 0; p < size; p++) {
                if (regulars[p].isKnown()) {
                    known++;
                }
            }
            return known;
        }

        int silentOnes() {
            int silent = 0;
            for (int p = 0; p < size; p++) {
                if (regulars[p].isOf(SILENT)) {
                    silent++;
                }
            }
            return silent;
        }

        int soursOfAll() {
            int sum = 0;
            for (int p = 0; p < size; p++) {
                sum += regulars[p].sours;
            }
            return sum;
        }

        private static boolean isIn(int set, int p) {
            return (set >> p & 1) == 1;
        }
    }

    /**
     * A kept shop. Others and turns are enough of it: kept shops go with a new text, so the rest of its regulars
     * is that of the shop now, and the turns lead to all that comes of them.
     */
    private static final class Kept {
        final int[] others = new int[MOST_REGULARS];
        final Turns turns = new Turns();
        boolean there;

        void takeFrom(Shop shop) {
            for (int p = 0; p < shop.size; p++) {
                others[p] = shop.regulars[p].otherThing;
            }
            turns.takeFrom(shop.turns);
            there = true;
        }

        void giveTo(Shop shop) {
            for (int p = 0; p < shop.size; p++) {
                shop.regulars[p].otherThing = others[p];
            }
            shop.turns.takeFrom(turns);
            shop.goThrough(turns.size);
        }
    }

    /** How a queue went when it was last walked through. */
    private static final class Line {
        int gone, left, servedInTime;

        void walk(Regular[] regulars, int[] queue, int size, int inTime) {
            gone = 0;
            left = 0;
            servedInTime = 0;
            for (int i = 0; i + 1 < size; i += 2) {
                Regular one = regulars[queue[i]];
                int came = queue[i + 1];
                gone = Math.max(gone, came);
                if (gone - came > one.patience()) {
                    left++;
                    continue;
                }
                gone += one.askingSeconds();
                if (gone <= inTime) {
                    servedInTime++;
                }
            }
        }
    }
}
