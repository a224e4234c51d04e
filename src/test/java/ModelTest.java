import java.util.Random;

/** Runs of calls, by lots of fixed seeds, on the class and on the model: all answers must be the same. */
public final class ModelTest {
    /** An object is used for at most 512 calls; one round makes fewer than 80. */
    private static final int RUNS = 5000, CALLS = 430;
    private static final int[] EDGES = {-1, -9, 6, 7, 41, 61, 999, 1000, 9999, 10000, -8,
        Integer.MIN_VALUE, Integer.MAX_VALUE, Integer.MAX_VALUE - 1};

    private final Random random;
    private final TheUsual x = new TheUsual();
    private final Model y = new Model();
    private final String run;
    private int calls = 0;

    private ModelTest(int seed) {
        random = new Random(seed);
        run = "run " + seed + ": ";
    }

    public static void main(String[] args) {
        for (int seed = 0; seed < RUNS; seed++) {
            new ModelTest(seed).go();
        }
        Check.end();
    }

    private void go() {
        // One run in ten stays without a shop for a while.
        if (random.nextInt(10) > 0) {
            newShop();
        }
        while (calls < CALLS) {
            call(random.nextInt(6));
            if (random.nextInt(2) == 0) {
                same("asked", x.asked(), y.asked);
                same("upper", x.upper(), y.upper);
                same("lower", x.lower(), y.lower);
                same("finding", x.finding(), y.finding());
            }
            if (random.nextInt(8) == 0) {
                same("digest", x.digest(), y.digest());
            }
        }
        for (int f = 0; f <= 6; f++) {
            same("findings", x.findings(f), y.findings(f));
        }
        same("digest", x.digest(), y.digest());
    }

    private void same(String call, long got, long want) {
        calls++;
        Check.due(run + call, got, want);
    }

    /** A number from 0 on below a bound, or seldom one that may be out of all bounds. */
    private int some(int bound) {
        return random.nextInt(25) == 0 ? EDGES[random.nextInt(EDGES.length)] : random.nextInt(bound);
    }

    private int person() {
        return some(Math.max(y.items.size(), 1));
    }

    private int sign() {
        return random.nextInt(3) == 0 ? -9 : some(3);
    }

    private int thingOrNone() {
        return random.nextInt(4) == 0 ? -9 : some(6);
    }

    private void setText(int t, String signs) {
        same("text", x.text(t, signs.length()), y.text(t, signs.length()));
        for (int i = 0; i < signs.length(); i++) {
            same("put", x.put(t, i, signs.charAt(i)), y.put(t, i, signs.charAt(i)));
        }
    }

    private void newShop() {
        StringBuilder signs = new StringBuilder();
        int items = 1 + random.nextInt(random.nextInt(9) == 0 ? 8 : 6);
        int looks = 1 + random.nextInt(3);
        for (int i = 0; i < items; i++) {
            signs.append(" ".repeat(random.nextInt(3))).append("rschyf".charAt(random.nextInt(6)));
            signs.append(random.nextInt(looks)).append(random.nextInt(looks));
            signs.append(random.nextInt(6)).append(random.nextInt(6)).append(1 + random.nextInt(9));
        }
        signs.setLength(Math.min(signs.length(), 60));
        if (random.nextInt(4) == 0) {
            signs.setCharAt(random.nextInt(signs.length()), " rschyf0123456789:/xR".charAt(random.nextInt(20)));
        }
        int t = random.nextInt(4);
        setText(t, signs.toString());
        same("fault of '" + signs + "'", x.fault(t), y.fault(t));
        same("shop of '" + signs + "'", x.shop(t), y.shop(t));
    }

    private void newQueue() {
        int r = random.nextInt(6);
        int size = random.nextInt(19);
        same("row", x.row(r, size), y.row(r, size));
        int second = 0;
        for (int i = 0; i < size; i++) {
            second += random.nextInt(60);
            int v = i % 2 == 0 ? person() : random.nextInt(20) == 0 ? some(1100) : Math.min(second, 999);
            same("lay", x.lay(r, i, v), y.lay(r, i, v));
        }
        askOfQueue(r);
        int by = some(400);
        same("by", x.by(r, by), y.by(r, by));
    }

    private void askOfQueue(int r) {
        same("queue", x.queue(r), y.queue(r));
    }

    /** A book of what somebody wants, with a lie here and there. */
    private void newBook() {
        int r = random.nextInt(6);
        int size = 2 * random.nextInt(8) + (random.nextInt(12) == 0 ? 1 : 0);
        same("row", x.row(r, size), y.row(r, size));
        int p = y.items.isEmpty() ? 0 : random.nextInt(y.items.size());
        for (int i = 0; i + 1 < size; i += 2) {
            int m = some(random.nextInt(4) == 0 ? 1000 : 12);
            int told = random.nextInt(8) == 0 ? some(6) : Math.max(y.wants(p, Math.floorMod(m, 1000)), 0);
            same("lay", x.lay(r, i, m), y.lay(r, i, m));
            same("lay", x.lay(r, i + 1, told), y.lay(r, i + 1, told));
        }
        askOfBook(r);
    }

    private void askOfBook(int r) {
        same("fits", x.fits(r), y.fits(r));
        int usual = some(6);
        int other = some(6);
        same("kinds", x.kinds(r, usual, other), y.kinds(r, usual, other));
        if (!y.items.isEmpty()) {
            Model.Item item = y.items.get(random.nextInt(y.items.size()));
            same("kinds", x.kinds(r, item.usual(), item.other()), y.kinds(r, item.usual(), item.other()));
        }
        same("lies", x.lies(r), y.lies(r));
    }

    private void call(int which) {
        switch (which) {
            case 0 -> callOfRows();
            case 1 -> callOfTexts();
            case 2 -> callOfRegulars();
            case 3 -> callOfTurns();
            case 4 -> callOfLooks();
            default -> callOfTheRest();
        }
    }

    private void callOfRows() {
        int r = some(6);
        int i = some(9);
        int n = some(9);
        int v = random.nextInt(3) == 0 ? random.nextInt() : some(6);
        switch (random.nextInt(8)) {
            case 0 -> same("row", x.row(r, n), y.row(r, n));
            case 1, 2 -> same("lay", x.lay(r, i, v), y.lay(r, i, v));
            case 3 -> same("at", x.at(r, i), y.at(r, i));
            case 4 -> {
                if (random.nextInt(3) == 0) {
                    same("tear", x.tear(r), y.tear(r));
                }
            }
            case 5, 6 -> {
                int to = random.nextInt(3) == 0 ? r : some(6);
                int j = some(5);
                int less = some(5);
                same("copy", x.copy(r, less, to, j, n), y.copy(r, less, to, j, n));
            }
            default -> same("mean", x.mean(r), y.mean(r));
        }
    }

    private void callOfTexts() {
        int t = some(4);
        int i = some(12);
        int v = random.nextInt(3) == 0 ? random.nextInt() : 48 + some(6);
        switch (random.nextInt(8)) {
            case 0 -> {
                if (random.nextInt(4) == 0) {
                    newShop();
                }
            }
            case 1 -> same("text", x.text(t, i), y.text(t, i));
            case 2, 3, 4 -> same("put", x.put(t, i, v), y.put(t, i, v));
            case 5 -> {
                if (random.nextInt(4) == 0) {
                    same("shop", x.shop(t), y.shop(t));
                }
            }
            default -> same("fault", x.fault(t), y.fault(t));
        }
    }

    private void callOfRegulars() {
        int p = person();
        int what = some(9);
        int kind = some(6);
        int thing = some(6);
        switch (random.nextInt(4)) {
            case 0 -> same("regular", x.regular(p, what), y.regular(p, what));
            case 1, 2 -> same("mark", x.mark(p, kind), y.mark(p, kind));
            default -> same("other", x.other(p, thing), y.other(p, thing));
        }
    }

    private void callOfTurns() {
        int p = person();
        int thing = thingOrNone();
        int k = some(3);
        int n = 1 + some(20);
        int seed = random.nextInt(9) == 0 ? some(9) : random.nextInt();
        int back = Math.max(0, y.turns.size() - random.nextInt(25));
        int turn = random.nextInt(4) == 0 ? some(62) : back;
        switch (random.nextInt(10)) {
            case 0, 1, 2, 3 -> same("serve", x.serve(p, thing), y.serve(p, thing));
            case 4, 5 -> same("morning", x.morning(), y.morning());
            case 6 -> same("undo", x.undo(turn), y.undo(turn));
            case 7 -> same("keep", x.keep(k), y.keep(k));
            case 8 -> same("on", x.on(k), y.on(k));
            default -> same("lots", x.lots(n, seed), y.lots(n, seed));
        }
    }

    private void callOfLooks() {
        int hat = sign();
        int step = sign();
        int p = person();
        int q = person();
        int m = some(1000);
        int thing = thingOrNone();
        switch (random.nextInt(7)) {
            case 0 -> same("who", x.who(hat, step), y.who(hat, step));
            case 1 -> same("parts", x.parts(p, q), y.parts(p, q));
            case 2 -> same("wants", x.wants(p, m), y.wants(p, m));
            case 3 -> same("likely", x.likely(hat, step, thing), y.likely(hat, step, thing));
            case 4, 5 -> same("takes", x.takes(hat, step, thing), y.takes(hat, step, thing));
            default -> same("quickest", x.quickest(hat, step), y.quickest(hat, step));
        }
    }

    private void callOfTheRest() {
        int r = some(6);
        int n = some(7);
        int from = some(10);
        int to = some(20);
        int p = person();
        int q = person();
        switch (random.nextInt(9)) {
            case 0 -> newQueue();
            case 1 -> newBook();
            case 2 -> askOfQueue(r);
            case 3 -> askOfBook(r);
            case 4 -> same("order", x.order(r), y.order(r));
            case 5 -> same("learn", x.learn(n), y.learn(n));
            case 6 -> same("apart", x.apart(p, q, from, to), y.apart(p, q, from, to));
            case 7 -> same("sour", x.sour(n), y.sour(n));
            default -> same("odds", x.odds(n), y.odds(n));
        }
        int what = some(10);
        same("count", x.count(what), y.count(what));
    }
}
