import java.math.BigInteger;
import java.util.ArrayList;
import java.util.Arrays;
import java.util.Collections;
import java.util.List;
import java.util.regex.Matcher;
import java.util.regex.Pattern;

/**
 * The document said a second time, as slowly and as plainly as can be, with the Java library: nothing is remembered
 * but what was told, and all else is worked out anew for each question.
 */
final class Model {
    static final int BAD = -1, FULL = -2, FINDING = -3, STATE = -4, NONE = -9;
    private static final Pattern SHOP = Pattern.compile(" *([rschyf][0-3][0-3][0-5][0-5][1-9] *){1,6}");

    /** An item of a shop's text, and its other thing, which can be changed. */
    record Item(char letter, int hat, int step, int usual, int other, int comes) {
        boolean silent() {
            return letter == 's' || letter == 'y';
        }

        boolean changer() {
            return letter == 'c' || letter == 'f';
        }

        int want(int m) {
            boolean swaps = changer() && m >= 3;
            if (letter == 'f' && m % 5 == 4) {
                swaps = !swaps;
            }
            if (letter == 'y' && m % 2 != 0) {
                swaps = true;
            }
            return swaps ? other : usual;
        }
    }

    /** A turn: who (-1: a morning begins), what was laid out (null: asked). */
    record Turn(int who, Integer laid) {
    }

    record Saved(List<Item> items, List<Turn> turns) {
    }

    final List<List<Integer>> rows = new ArrayList<>(Collections.nCopies(6, null));
    final List<List<Integer>> texts = new ArrayList<>(Collections.nCopies(4, null));
    List<Item> items = new ArrayList<>();
    List<Turn> turns = new ArrayList<>();
    final Saved[] saved = new Saved[3];
    final List<Integer> found = new ArrayList<>();
    int asked = 0;
    long upper = 0;
    long lower = 1;

    private int find(int f) {
        found.add(f);
        return FINDING;
    }

    // ---- rows, texts

    int row(int r, int n) {
        if (r < 0 || r > 5 || n > 40) return BAD;
        if (n < 0) return find(5);
        rows.set(r, new ArrayList<>(Collections.nCopies(n, 0)));
        return n;
    }

    int lay(int r, int i, int v) {
        int was = at(r, i);
        if (was == 1) rows.get(r).set(i, v);
        return was;
    }

    int at(int r, int i) {
        if (r < 0 || r > 5) return BAD;
        if (rows.get(r) == null) return find(1);
        if (i < 0 || i >= rows.get(r).size()) return find(2);
        asked = rows.get(r).get(i);
        return 1;
    }

    int tear(int r) {
        if (r < 0 || r > 5) return BAD;
        if (rows.get(r) == null) return find(1);
        rows.set(r, null);
        return 1;
    }

    int copy(int r, int i, int to, int j, int n) {
        if (r < 0 || r > 5 || to < 0 || to > 5) return BAD;
        if (n < 0) return find(5);
        if (rows.get(r) == null || rows.get(to) == null) return find(1);
        if (i < 0 || (long) i + n > rows.get(r).size()) return find(2);
        if (j < 0 || (long) j + n > rows.get(to).size()) return find(2);
        List<Integer> taken = new ArrayList<>(rows.get(r).subList(i, i + n));
        for (int k = 0; k < n; k++) rows.get(to).set(j + k, taken.get(k));
        return 1;
    }

    int mean(int r) {
        if (r < 0 || r > 5) return BAD;
        if (rows.get(r) == null) return find(1);
        if (rows.get(r).isEmpty()) return find(4);
        BigInteger sum = BigInteger.ZERO;
        for (int v : rows.get(r)) sum = sum.add(BigInteger.valueOf(v));
        asked = sum.divide(BigInteger.valueOf(rows.get(r).size())).intValueExact();
        return 1;
    }

    int text(int t, int n) {
        if (t < 0 || t > 3 || n > 60) return BAD;
        if (n < 0) return find(5);
        texts.set(t, new ArrayList<>(Collections.nCopies(n, 32)));
        return n;
    }

    int put(int t, int i, int v) {
        if (t < 0 || t > 3) return BAD;
        if (texts.get(t) == null) return find(1);
        if (i < 0 || i >= texts.get(t).size()) return find(2);
        int cut = Math.floorMod(v, 256);
        return 1000 + texts.get(t).set(i, cut > 127 ? cut - 256 : cut);
    }

    private String signs(int t) {
        StringBuilder signs = new StringBuilder();
        for (int v : texts.get(t)) signs.append((char) (v & 255));
        return signs.toString();
    }

    /** The first place whose sign no shop can have behind what stands ahead of it. */
    int fault(int t) {
        if (t < 0 || t > 3) return BAD;
        if (texts.get(t) == null) return find(1);
        String signs = signs(t);
        if (SHOP.matcher(signs).matches()) return NONE;
        for (int i = 0; i < signs.length(); i++) {
            Matcher ahead = SHOP.matcher(signs.substring(0, i + 1));
            if (!ahead.matches() && !ahead.hitEnd()) return i;
        }
        return signs.length();
    }

    int shop(int t) {
        if (t < 0 || t > 3) return BAD;
        if (texts.get(t) == null) return find(1);
        if (fault(t) != NONE) return STATE;
        String tight = signs(t).replace(" ", "");
        items = new ArrayList<>();
        for (int i = 0; i < tight.length(); i += 6) {
            items.add(new Item(tight.charAt(i), tight.charAt(i + 1) - '0', tight.charAt(i + 2) - '0',
                tight.charAt(i + 3) - '0', tight.charAt(i + 4) - '0', tight.charAt(i + 5) - '0'));
        }
        turns = new ArrayList<>();
        Arrays.fill(saved, null);
        return items.size();
    }

    // ---- what the turns have led to

    private boolean none(int p) {
        return p < 0 || p >= items.size();
    }

    private static boolean noThing(int thing) {
        return thing < 0 || thing > 5;
    }

    private int morningAt(int turn) {
        int m = 0;
        for (Turn one : turns.subList(0, turn)) if (one.who == -1) m++;
        return m;
    }

    private int today() {
        return morningAt(turns.size());
    }

    private int servedAt(int p, int turn) {
        int n = 0;
        for (Turn one : turns.subList(0, turn)) if (one.who == p) n++;
        return n;
    }

    private int secondsIf(int p, Integer laid, int m, int servedAhead) {
        Item item = items.get(p);
        int ask = servedAhead >= 2 ? 30 : 40;
        if (laid == null) return ask;
        if (laid == item.want(m) || item.silent()) return 9;
        return 9 + ask + (item.letter == 'h' ? 20 : 10);
    }

    private int secondsNow(int p, int thing) {
        return secondsIf(p, thing == NONE ? null : thing, today(), servedAt(p, turns.size()));
    }

    private int secondsToday() {
        int sum = 0;
        for (int i = 0; i < turns.size(); i++) {
            Turn one = turns.get(i);
            sum = one.who == -1 ? 0 : sum + secondsIf(one.who, one.laid, morningAt(i), servedAt(one.who, i));
        }
        return sum;
    }

    private int sours(int p) {
        int n = 0;
        for (int i = 0; i < turns.size(); i++) {
            Turn one = turns.get(i);
            boolean wrong = one.who == p && one.laid != null && one.laid != items.get(p).want(morningAt(i));
            if (wrong && items.get(p).silent()) n++;
        }
        return n;
    }

    private int fact(int p, int what) {
        Item item = items.get(p);
        return switch (what) {
            case 0 -> "rschyf".indexOf(item.letter);
            case 1 -> item.hat;
            case 2 -> item.step;
            case 3 -> item.usual;
            case 4 -> item.other;
            case 5 -> item.comes;
            case 6 -> servedAt(p, turns.size());
            case 7 -> sours(p);
            default -> item.want(today());
        };
    }

    int regular(int p, int what) {
        if (none(p) || what < 0 || what > 8) return BAD;
        asked = fact(p, what);
        return 1;
    }

    int mark(int p, int kind) {
        if (none(p) || kind < 1 || kind > 5) return BAD;
        Item item = items.get(p);
        String[] letters = {"", "sy", "cf", "h", "y", "f"};
        if (letters[kind].indexOf(item.letter) < 0) return find(3);
        if (kind == 1) return 5;
        if (kind == 2) {
            int ahead = 1;
            while (ahead < 10 && item.want(today() + ahead) == item.want(today())) ahead++;
            return ahead < 10 ? ahead : NONE;
        }
        if (kind == 3) return secondsNow(p, (item.want(today()) + 1) % 6);
        int n = 0;
        if (kind == 4) {
            for (Item one : items) if (one != item && one.hat == item.hat && one.step == item.step) n++;
        } else {
            for (int m = 0; m <= 9; m++) if (item.want(m) == item.other) n++;
        }
        return n;
    }

    int other(int p, int thing) {
        if (none(p) || noThing(thing)) return BAD;
        if (!turns.isEmpty()) return STATE;
        Item was = items.get(p);
        items = new ArrayList<>(items);
        items.set(p, new Item(was.letter, was.hat, was.step, was.usual, thing, was.comes));
        return was.other;
    }

    int serve(int p, int thing) {
        if (none(p) || noThing(thing) && thing != NONE) return BAD;
        int seconds = secondsNow(p, thing);
        if (secondsToday() + seconds > 9999) return STATE;
        if (turns.size() == 60) return FULL;
        turns.add(new Turn(p, thing == NONE ? null : thing));
        return seconds;
    }

    int morning() {
        if (items.isEmpty()) return STATE;
        if (turns.size() == 60) return FULL;
        turns.add(new Turn(-1, null));
        return today();
    }

    int undo(int n) {
        if (n < 0 || n > turns.size()) return BAD;
        int undone = turns.size() - n;
        turns = new ArrayList<>(turns.subList(0, n));
        return undone;
    }

    int keep(int k) {
        if (k < 0 || k > 2) return BAD;
        if (items.isEmpty()) return STATE;
        saved[k] = new Saved(List.copyOf(items), List.copyOf(turns));
        return turns.size();
    }

    int on(int k) {
        if (k < 0 || k > 2) return BAD;
        if (saved[k] == null) return find(1);
        items = new ArrayList<>(saved[k].items);
        turns = new ArrayList<>(saved[k].turns);
        return turns.size();
    }

    // ---- who is that

    private static boolean noSign(int sign) {
        return sign != NONE && (sign < 0 || sign > 3);
    }

    private List<Integer> looking(int hat, int step) {
        List<Integer> those = new ArrayList<>();
        for (int p = 0; p < items.size(); p++) {
            boolean byHat = hat == NONE || items.get(p).hat == hat;
            boolean byStep = step == NONE || items.get(p).step == step;
            if (byHat && byStep) those.add(p);
        }
        return those;
    }

    private static int bits(List<Integer> those) {
        int set = 0;
        for (int p : those) set += (int) Math.pow(2, p);
        return set;
    }

    private int tell(long high, long low) {
        long divisor = BigInteger.valueOf(high).gcd(BigInteger.valueOf(low)).longValueExact();
        upper = high / divisor;
        lower = low / divisor;
        return 1;
    }

    private long comings(List<Integer> those) {
        return those.stream().mapToLong(p -> items.get(p).comes).sum();
    }

    int who(int hat, int step) {
        return noSign(hat) || noSign(step) ? BAD : bits(looking(hat, step));
    }

    int parts(int p, int q) {
        if (none(p) || none(q) || p == q) return BAD;
        Item one = items.get(p);
        Item two = items.get(q);
        if (one.hat == two.hat) return one.step == two.step ? 0 : 2;
        return one.step == two.step ? 1 : 3;
    }

    int wants(int p, int m) {
        return none(p) || m < 0 || m > 999 ? BAD : items.get(p).want(m);
    }

    int likely(int hat, int step, int thing) {
        if (noSign(hat) || noSign(step) || noThing(thing)) return BAD;
        List<Integer> those = looking(hat, step);
        if (those.isEmpty()) return find(4);
        long all = comings(those);
        those.removeIf(p -> items.get(p).want(today()) != thing);
        return tell(comings(those), all);
    }

    private long weighed(List<Integer> those, int thing) {
        return those.stream().mapToLong(p -> (long) items.get(p).comes * secondsNow(p, thing)).sum();
    }

    int takes(int hat, int step, int thing) {
        if (noSign(hat) || noSign(step) || noThing(thing) && thing != NONE) return BAD;
        List<Integer> those = looking(hat, step);
        if (those.isEmpty()) return find(4);
        return tell(weighed(those, thing), comings(those));
    }

    private int best(List<Integer> those) {
        List<Integer> ways = new ArrayList<>(List.of(NONE, 0, 1, 2, 3, 4, 5));
        ways.sort((a, b) -> Long.compare(weighed(those, a), weighed(those, b)));
        return ways.get(0);
    }

    private List<Integer> soured(List<Integer> those, int thing) {
        List<Integer> left = new ArrayList<>(those);
        left.removeIf(p -> thing == NONE || !items.get(p).silent() || items.get(p).want(today()) == thing);
        return left;
    }

    int quickest(int hat, int step) {
        if (noSign(hat) || noSign(step)) return BAD;
        List<Integer> those = looking(hat, step);
        if (those.isEmpty()) return find(4);
        asked = soured(those, best(those)).size();
        return best(those);
    }

    // ---- queues

    private int queueRefused(int r) {
        if (r < 0 || r > 5) return BAD;
        if (items.isEmpty()) return STATE;
        List<Integer> row = rows.get(r);
        if (row == null) return find(1);
        if (row.size() % 2 == 1 || row.size() / 2 > 8) return find(5);
        for (int i = 0; i < row.size(); i += 2) {
            int second = row.get(i + 1);
            if (none(row.get(i)) || second < 0 || second > 999) return find(3);
            if (i > 0 && second < row.get(i - 1)) return find(3);
        }
        return 0;
    }

    /** Second by second: when each one has gone; minus, if it left unserved. */
    private List<Integer> goings(List<Integer> row) {
        List<Integer> goings = new ArrayList<>();
        int next = 0;
        int busy = 0;
        for (int now = 0; now < 5000 && next < row.size(); now++) {
            while (next < row.size() && busy <= now && row.get(next + 1) <= now) {
                int p = row.get(next);
                int limit = items.get(p).letter == 'h' ? 20 : 60;
                boolean leaves = now - row.get(next + 1) > limit;
                if (!leaves) busy = now + (servedAt(p, turns.size()) > 1 ? 30 : 40);
                goings.add(leaves ? -now : busy);
                next += 2;
            }
        }
        return goings;
    }

    int queue(int r) {
        int refused = queueRefused(r);
        if (refused != 0) return refused;
        List<Integer> goings = goings(rows.get(r));
        asked = goings.isEmpty() ? 0 : Math.abs(goings.get(goings.size() - 1));
        return (int) goings.stream().filter(g -> g < 0).count();
    }

    int by(int r, int second) {
        if (second < 0 || second > 9999) return BAD;
        int refused = queueRefused(r);
        if (refused != 0) return refused;
        return (int) goings(rows.get(r)).stream().filter(g -> g >= 0 && g <= second).count();
    }

    private List<Integer> bestOrder;
    private int leastWaited;

    private void tryOrders(List<Integer> ahead) {
        if (ahead.size() == items.size()) {
            int waited = 0;
            int now = 0;
            for (int p : ahead) {
                waited += now;
                now += servedAt(p, turns.size()) >= 2 ? 9 : 40;
            }
            if (bestOrder == null || waited < leastWaited) {
                bestOrder = new ArrayList<>(ahead);
                leastWaited = waited;
            }
            return;
        }
        for (int p = 0; p < items.size(); p++) {
            if (!ahead.contains(p)) {
                ahead.add(p);
                tryOrders(ahead);
                ahead.remove(ahead.size() - 1);
            }
        }
    }

    int order(int r) {
        if (r < 0 || r > 5) return BAD;
        if (items.isEmpty()) return STATE;
        bestOrder = null;
        tryOrders(new ArrayList<>());
        rows.set(r, bestOrder);
        return leastWaited;
    }

    int learn(int n) {
        if (n < 0 || n > 6) return BAD;
        if (n > items.size()) return STATE;
        List<Integer> all = looking(NONE, NONE);
        all.sort((a, b) -> items.get(b).comes - items.get(a).comes);
        List<Integer> learnt = all.subList(0, n);
        asked = (int) (9 * comings(learnt) + 40 * comings(all.subList(n, all.size())));
        return bits(learnt);
    }

    // ---- books

    private int bookRefused(int r) {
        if (r < 0 || r > 5) return BAD;
        List<Integer> row = rows.get(r);
        if (row == null) return find(1);
        if (row.size() % 2 == 1) return find(5);
        for (int i = 0; i < row.size(); i += 2) {
            if (row.get(i) < 0 || row.get(i) > 999 || noThing(row.get(i + 1))) return find(3);
        }
        return 0;
    }

    private int lie(Item item, int r) {
        int n = 0;
        for (int i = 0; i < rows.get(r).size(); i += 2) {
            if (item.want(rows.get(r).get(i)) != rows.get(r).get(i + 1)) n++;
        }
        return n;
    }

    int fits(int r) {
        int refused = bookRefused(r);
        if (refused != 0) return refused;
        List<Integer> those = looking(NONE, NONE);
        those.removeIf(p -> lie(items.get(p), r) > 0);
        return bits(those);
    }

    int kinds(int r, int usual, int other) {
        if (noThing(usual) || noThing(other)) return BAD;
        int refused = bookRefused(r);
        if (refused != 0) return refused;
        List<Integer> those = new ArrayList<>(List.of(0, 1, 2, 3, 4, 5));
        those.removeIf(kind -> lie(new Item("rschyf".charAt(kind), 0, 0, usual, other, 1), r) > 0);
        return bits(those);
    }

    int lies(int r) {
        if (r < 0 || r > 5) return BAD;
        if (items.isEmpty()) return STATE;
        int refused = bookRefused(r);
        if (refused != 0) return refused;
        List<Integer> all = looking(NONE, NONE);
        all.sort((a, b) -> lie(items.get(a), r) - lie(items.get(b), r));
        asked = all.get(0);
        return lie(items.get(asked), r);
    }

    int apart(int p, int q, int from, int to) {
        if (none(p) || none(q) || p == q || from < 0 || from > 999 || to < 0 || to > 999 || to < from) return BAD;
        for (int m = from; m <= to; m++) if (wants(p, m) != wants(q, m)) return m;
        return NONE;
    }

    // ---- chances, lots

    int sour(int thing) {
        if (noThing(thing)) return BAD;
        List<Integer> those = soured(looking(NONE, NONE), thing);
        asked = bits(those);
        return those.size();
    }

    /** Goes through all who could come, one behind the other. */
    private long alike(int n, int want) {
        if (n == 0) return 1;
        long sum = 0;
        for (Item item : items) {
            int wanted = item.want(today());
            if (want == NONE || want == wanted) sum += item.comes * alike(n - 1, wanted);
        }
        return sum;
    }

    int odds(int n) {
        if (n < 1 || n > 3) return BAD;
        if (items.isEmpty()) return STATE;
        return tell(alike(n, NONE), (long) Math.pow(comings(looking(NONE, NONE)), n));
    }

    int lots(int n, int seed) {
        if (n < 1 || n > 20 || seed < 1 || seed > 2147483646) return BAD;
        if (items.isEmpty() || secondsToday() + 70 * n > 9999) return STATE;
        if (turns.size() + n > 60) return FULL;
        int sum = 0;
        BigInteger lot = BigInteger.valueOf(seed);
        for (int i = 0; i < n; i++) {
            lot = lot.multiply(BigInteger.valueOf(48271)).mod(BigInteger.valueOf(2147483647));
            int p = lot.mod(BigInteger.valueOf(items.size())).intValue();
            sum += serve(p, best(looking(items.get(p).hat, items.get(p).step)));
        }
        return sum;
    }

    // ---- what is told

    int count(int what) {
        List<Integer> all = looking(NONE, NONE);
        return switch (what) {
            case 0 -> items.size();
            case 1 -> today();
            case 2 -> secondsToday();
            case 3 -> turns.size();
            case 4 -> (int) all.stream().filter(p -> servedAt(p, turns.size()) >= 2).count();
            case 5 -> all.stream().mapToInt(this::sours).sum();
            case 6 -> (int) items.stream().filter(Item::silent).count();
            case 7 -> (int) rows.stream().filter(row -> row != null).count();
            case 8 -> (int) texts.stream().filter(text -> text != null).count();
            case 9 -> (int) Arrays.stream(saved).filter(one -> one != null).count();
            default -> BAD;
        };
    }

    int finding() {
        return found.isEmpty() ? 0 : found.get(found.size() - 1);
    }

    int findings(int f) {
        return f < 1 || f > 5 ? BAD : Collections.frequency(found, f);
    }

    long digest() {
        List<Integer> values = new ArrayList<>();
        for (int what = 0; what < 10; what++) values.add(count(what));
        for (int p = 0; p < items.size(); p++) for (int what = 0; what < 9; what++) values.add(fact(p, what));
        for (Saved one : saved) values.add(one == null ? -1 : one.turns.size());
        for (List<List<Integer>> lists : List.of(rows, texts)) {
            for (List<Integer> list : lists) {
                values.add(list == null ? -1 : list.size());
                if (list != null) values.addAll(list);
            }
        }
        long h = 17;
        for (int v : values) h = 31 * h + v;
        return h;
    }
}
