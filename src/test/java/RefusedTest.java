/**
 * "What is refused changes nothing but finding(), findings()": each refusal that the document names, of each call,
 * and which of two comes first where both fit. Each is asked of a new object and held against one that was not asked.
 */
public final class RefusedTest {
    private static final int BAD = TheUsual.BAD, FULL = TheUsual.FULL, STATE = TheUsual.STATE, NONE = TheUsual.NONE;
    private static final int NOTHING = 1, BEYOND = 2, UNLIKE = 3, NOUGHT = 4, SIZE = 5;
    private static final int LOW = Integer.MIN_VALUE, HIGH = Integer.MAX_VALUE;

    /** Rows and texts that tests of refusals want: row 5, text 3 and kept shop 2 are missing. */
    private static final int PAIRS = 0, EMPTY = 1, ODD = 2, LONG = 3, WRONG = 4, MISSING = 5;

    private interface Call {
        int on(TheUsual x);
    }

    /** What a shop is opened by (none if empty), and how many turns it has had. */
    private final String signs;
    private final int turns;

    private RefusedTest(String signs, int turns) {
        this.signs = signs;
        this.turns = turns;
    }

    public static void main(String[] args) {
        RefusedTest shop = new RefusedTest("r00011 s01232 c10003 h11345 y00455 f22501", 3);
        shop.rows();
        shop.copies();
        shop.texts();
        shop.regulars();
        shop.marks();
        shop.turnsAndPlaces();
        shop.looks();
        shop.queues();
        shop.books();
        shop.chances();
        shop.told();
        new RefusedTest("", 0).withoutRegulars();
        new RefusedTest("r00011 s01232 c10003 h11345 y00455", 0).withFive();
        new RefusedTest("r00011 s01232", 59).withOneTurnLeft();
        new RefusedTest("r00011 s01232", 60).withoutTurnsLeft();
        Check.end();
    }

    private TheUsual made() {
        TheUsual x = new TheUsual();
        Check.text(x, 0, signs);
        Check.text(x, 1, "r0001");
        x.text(2, 0);
        Check.row(x, PAIRS, 0, 0, 1, 5);
        x.row(EMPTY, 0);
        Check.row(x, ODD, 0, 0, 1);
        x.row(LONG, 18);
        Check.row(x, WRONG, 9, 9);
        x.shop(0);
        x.keep(0);
        for (int i = 0; i < turns; i++) {
            Check.due("a turn", i == 1 ? x.morning() : x.serve(1, 5), i == 1 ? 1 : 9);
        }
        x.keep(1);
        x.takes(NONE, NONE, 0);
        x.learn(0);
        return x;
    }

    private void refused(String call, Call asking, int answer) {
        refused(call, asking, answer, 0);
    }

    private void finds(String call, Call asking, int finding) {
        refused(call, asking, TheUsual.FINDING, finding);
    }

    private void refused(String name, Call asking, int answer, int finding) {
        String call = name + ", " + turns + " turns";
        TheUsual x = made();
        TheUsual y = made();
        Check.due(call, asking.on(x), answer);
        Check.due(call + ": finding()", x.finding(), finding > 0 ? finding : y.finding());
        for (int f = 1; f <= 5; f++) {
            int more = f == finding ? 1 : 0;
            Check.due(call + ": findings(" + f + ")", x.findings(f), y.findings(f) + more);
        }
        Check.due(call + ": asked()", x.asked(), y.asked());
        Check.due(call + ": upper()", x.upper(), y.upper());
        Check.due(call + ": lower()", x.lower(), y.lower());
        Check.due(call + ": digest()", x.digest(), y.digest());
        // What the digest does not tell: which turns there were, and what was kept.
        for (int k = 0; k < 3; k++) {
            Check.due(call + ": undo(1)", x.undo(1), y.undo(1));
            Check.due(call + ": the turn ahead", x.digest(), y.digest());
            Check.due(call + ": on(" + k + ")", x.on(k), y.on(k));
            Check.due(call + ": kept " + k, x.digest(), y.digest());
        }
    }

    private void rows() {
        for (int r : new int[] {-1, 6, NONE, LOW, HIGH}) {
            refused("row of none", x -> x.row(r, 1), BAD);
            refused("row of none: ahead of SIZE", x -> x.row(r, -1), BAD);
            refused("lay of none", x -> x.lay(r, 0, 1), BAD);
            refused("lay of none: ahead of BEYOND", x -> x.lay(r, -1, 1), BAD);
            refused("at of none", x -> x.at(r, 0), BAD);
            refused("at of none: ahead of BEYOND", x -> x.at(r, -1), BAD);
            refused("tear of none", x -> x.tear(r), BAD);
            refused("mean of none", x -> x.mean(r), BAD);
        }
        refused("row of 41", x -> x.row(PAIRS, 41), BAD);
        refused("row of most", x -> x.row(MISSING, HIGH), BAD);
        finds("row of -1", x -> x.row(PAIRS, -1), SIZE);
        finds("row of least", x -> x.row(MISSING, LOW), SIZE);
        finds("lay of a missing one", x -> x.lay(MISSING, 0, 1), NOTHING);
        finds("lay of a missing one: ahead of BEYOND", x -> x.lay(MISSING, -1, 1), NOTHING);
        finds("at of a missing one", x -> x.at(MISSING, 0), NOTHING);
        finds("at of a missing one: ahead of BEYOND", x -> x.at(MISSING, 40), NOTHING);
        for (int i : new int[] {-1, 4, LOW, HIGH}) {
            finds("lay beyond", x -> x.lay(PAIRS, i, 7), BEYOND);
            finds("at beyond", x -> x.at(PAIRS, i), BEYOND);
        }
        finds("lay of an empty one", x -> x.lay(EMPTY, 0, 1), BEYOND);
        finds("at of an empty one", x -> x.at(EMPTY, 0), BEYOND);
        finds("tear of a missing one", x -> x.tear(MISSING), NOTHING);
        finds("mean of a missing one", x -> x.mean(MISSING), NOTHING);
        finds("mean of an empty one", x -> x.mean(EMPTY), NOUGHT);
    }

    private void copies() {
        for (int r : new int[] {-1, 6, LOW, HIGH}) {
            refused("copy from none", x -> x.copy(r, 0, PAIRS, 0, 0), BAD);
            refused("copy to none", x -> x.copy(PAIRS, 0, r, 0, 0), BAD);
            refused("copy from none: ahead of SIZE", x -> x.copy(r, 0, PAIRS, 0, -1), BAD);
            refused("copy to none: ahead of NOTHING", x -> x.copy(MISSING, 0, r, 0, 0), BAD);
        }
        finds("copy of -1", x -> x.copy(PAIRS, 0, ODD, 0, -1), SIZE);
        finds("copy of least", x -> x.copy(PAIRS, 0, ODD, 0, LOW), SIZE);
        finds("copy of -1 from a missing one: ahead of NOTHING", x -> x.copy(MISSING, 0, ODD, 0, -1), SIZE);
        finds("copy of -1 to a missing one: ahead of NOTHING", x -> x.copy(PAIRS, 0, MISSING, 0, -1), SIZE);
        finds("copy of -1 from beyond", x -> x.copy(PAIRS, 9, ODD, 0, -1), SIZE);
        finds("copy from a missing one", x -> x.copy(MISSING, 0, PAIRS, 0, 1), NOTHING);
        finds("copy to a missing one", x -> x.copy(PAIRS, 0, MISSING, 0, 1), NOTHING);
        finds("copy of none from a missing one", x -> x.copy(MISSING, 0, PAIRS, 0, 0), NOTHING);
        finds("copy of none to a missing one", x -> x.copy(PAIRS, 0, MISSING, 0, 0), NOTHING);
        finds("copy of a missing one to itself", x -> x.copy(MISSING, 0, MISSING, 0, 0), NOTHING);
        finds("copy to a missing one: ahead of BEYOND", x -> x.copy(PAIRS, 9, MISSING, 0, 1), NOTHING);
        finds("copy of 5 of 4", x -> x.copy(PAIRS, 0, LONG, 0, 5), BEYOND);
        finds("copy of 4 of 3 behind 1", x -> x.copy(PAIRS, 1, LONG, 0, 4), BEYOND);
        finds("copy of one behind the last", x -> x.copy(PAIRS, 4, LONG, 0, 1), BEYOND);
        finds("copy of 4 to 3", x -> x.copy(PAIRS, 0, ODD, 0, 4), BEYOND);
        finds("copy of one to behind the last", x -> x.copy(PAIRS, 0, ODD, 3, 1), BEYOND);
        finds("copy from -1", x -> x.copy(PAIRS, -1, LONG, 0, 1), BEYOND);
        finds("copy to -1", x -> x.copy(PAIRS, 0, LONG, -1, 1), BEYOND);
        finds("copy of one of an empty one", x -> x.copy(EMPTY, 0, PAIRS, 0, 1), BEYOND);
        finds("copy of one to an empty one", x -> x.copy(PAIRS, 0, EMPTY, 0, 1), BEYOND);
        finds("copy to itself beyond", x -> x.copy(PAIRS, 0, PAIRS, 1, 4), BEYOND);
        // Sums that would go beyond an int and come back as small ones.
        finds("copy of most", x -> x.copy(PAIRS, 1, LONG, 1, HIGH), BEYOND);
        finds("copy from most", x -> x.copy(PAIRS, HIGH, LONG, 0, 1), BEYOND);
        finds("copy to most", x -> x.copy(PAIRS, 0, LONG, HIGH, 1), BEYOND);
        finds("copy of most from most", x -> x.copy(PAIRS, HIGH, LONG, HIGH, HIGH), BEYOND);
        finds("copy from least", x -> x.copy(PAIRS, LOW, LONG, LOW, HIGH), BEYOND);
    }

    private void texts() {
        for (int t : new int[] {-1, 4, NONE, LOW, HIGH}) {
            refused("text of none", x -> x.text(t, 1), BAD);
            refused("text of none: ahead of SIZE", x -> x.text(t, -1), BAD);
            refused("put of none", x -> x.put(t, 0, 1), BAD);
            refused("put of none: ahead of BEYOND", x -> x.put(t, -1, 1), BAD);
            refused("fault of none", x -> x.fault(t), BAD);
            refused("shop of none", x -> x.shop(t), BAD);
        }
        refused("text of 61", x -> x.text(0, 61), BAD);
        refused("text of most", x -> x.text(3, HIGH), BAD);
        finds("text of -1", x -> x.text(0, -1), SIZE);
        finds("text of least", x -> x.text(3, LOW), SIZE);
        finds("put of a missing one", x -> x.put(3, 0, 1), NOTHING);
        finds("put of a missing one: ahead of BEYOND", x -> x.put(3, -1, 1), NOTHING);
        for (int i : new int[] {-1, 5, LOW, HIGH}) {
            finds("put beyond", x -> x.put(1, i, 65), BEYOND);
        }
        finds("put of an empty one", x -> x.put(2, 0, 65), BEYOND);
        finds("fault of a missing one", x -> x.fault(3), NOTHING);
        finds("shop of a missing one", x -> x.shop(3), NOTHING);
        refused("shop of a text with a fault", x -> x.shop(1), STATE);
        refused("shop of an empty text", x -> x.shop(2), STATE);
    }

    private void regulars() {
        for (int p : new int[] {-1, 6, NONE, LOW, HIGH}) {
            refused("regular of none", x -> x.regular(p, 0), BAD);
            refused("mark of none", x -> x.mark(p, 1), BAD);
            refused("other of none", x -> x.other(p, 0), BAD);
            refused("serve of none", x -> x.serve(p, 0), BAD);
            refused("parts of none", x -> x.parts(p, 0), BAD);
            refused("parts of one and none", x -> x.parts(0, p), BAD);
            refused("parts of none and none", x -> x.parts(p, p), BAD);
            refused("wants of none", x -> x.wants(p, 0), BAD);
            refused("apart of none", x -> x.apart(p, 0, 0, 9), BAD);
            refused("apart of one and none", x -> x.apart(0, p, 0, 9), BAD);
        }
        for (int what : new int[] {-1, 9, NONE, LOW, HIGH}) {
            refused("regular, no such fact", x -> x.regular(0, what), BAD);
        }
        refused("other, there are turns", x -> x.other(0, 2), STATE);
        for (int thing : new int[] {-1, 6, NONE, LOW, HIGH}) {
            refused("other, no thing: ahead of STATE", x -> x.other(0, thing), BAD);
        }
    }

    private void marks() {
        String[] kinds = {"", "s", "c", "h", "sy", "cf"};
        for (int kind : new int[] {-1, 0, 6, NONE, LOW, HIGH}) {
            for (int p = 0; p < 6; p++) {
                int one = p;
                refused("mark, no kind", x -> x.mark(one, kind), BAD);
            }
        }
        String letters = "rschyf";
        for (int p = 0; p < 6; p++) {
            for (int kind = 1; kind < 6; kind++) {
                int one = p;
                int of = kind;
                if (kinds[p].indexOf(letters.charAt(kind)) < 0) {
                    finds("mark(" + p + ", " + kind + ")", x -> x.mark(one, of), UNLIKE);
                }
            }
        }
    }

    private void turnsAndPlaces() {
        for (int thing : new int[] {-1, 6, -8, -10, LOW, HIGH}) {
            refused("serve, neither a thing nor NONE", x -> x.serve(0, thing), BAD);
        }
        for (int n : new int[] {-1, turns + 1, NONE, LOW, HIGH}) {
            refused("undo", x -> x.undo(n), BAD);
        }
        for (int k : new int[] {-1, 3, NONE, LOW, HIGH}) {
            refused("keep in no place", x -> x.keep(k), BAD);
            refused("on from no place", x -> x.on(k), BAD);
        }
    }

    private void looks() {
        for (int sign : new int[] {-1, 4, -8, -10, LOW, HIGH}) {
            refused("who, no hat", x -> x.who(sign, 0), BAD);
            refused("who, no step", x -> x.who(0, sign), BAD);
            refused("likely, no hat", x -> x.likely(sign, 0, 0), BAD);
            refused("likely, no step", x -> x.likely(0, sign, 0), BAD);
            refused("takes, no hat", x -> x.takes(sign, 0, 0), BAD);
            refused("takes, no step", x -> x.takes(0, sign, 0), BAD);
            refused("quickest, no hat", x -> x.quickest(sign, 0), BAD);
            refused("quickest, no step", x -> x.quickest(0, sign), BAD);
        }
        for (int thing : new int[] {-1, 6, -8, -10, LOW, HIGH}) {
            refused("likely, no thing", x -> x.likely(0, 0, thing), BAD);
            refused("likely, no thing: ahead of NOUGHT", x -> x.likely(3, 3, thing), BAD);
            refused("takes, no thing", x -> x.takes(0, 0, thing), BAD);
            refused("takes, no thing: ahead of NOUGHT", x -> x.takes(3, 3, thing), BAD);
        }
        refused("likely, NONE is no thing", x -> x.likely(0, 0, NONE), BAD);
        finds("likely, nobody looks so", x -> x.likely(3, 3, 0), NOUGHT);
        finds("takes, nobody looks so", x -> x.takes(3, NONE, NONE), NOUGHT);
        finds("quickest, nobody looks so", x -> x.quickest(NONE, 3), NOUGHT);
        refused("parts of the same", x -> x.parts(2, 2), BAD);
        for (int m : new int[] {-1, 1000, NONE, LOW, HIGH}) {
            refused("wants on no morning", x -> x.wants(0, m), BAD);
        }
    }

    private void queues() {
        for (int r : new int[] {-1, 6, LOW, HIGH}) {
            refused("queue of none", x -> x.queue(r), BAD);
            refused("by of none", x -> x.by(r, 0), BAD);
            refused("order to none", x -> x.order(r), BAD);
        }
        for (int second : new int[] {-1, 10000, NONE, LOW, HIGH}) {
            refused("by no second", x -> x.by(PAIRS, second), BAD);
            refused("by no second: ahead of NOTHING", x -> x.by(MISSING, second), BAD);
            refused("by no second: ahead of SIZE", x -> x.by(ODD, second), BAD);
            refused("by no second: ahead of UNLIKE", x -> x.by(WRONG, second), BAD);
        }
        finds("queue in a missing row", x -> x.queue(MISSING), NOTHING);
        finds("by in a missing row", x -> x.by(MISSING, 9), NOTHING);
        finds("queue not by pairs", x -> x.queue(ODD), SIZE);
        finds("by not by pairs", x -> x.by(ODD, 9), SIZE);
        finds("queue of nine", x -> x.queue(LONG), SIZE);
        finds("by of nine", x -> x.by(LONG, 9), SIZE);
        finds("queue of no regular", x -> x.queue(WRONG), UNLIKE);
        finds("by of no regular", x -> x.by(WRONG, 9), UNLIKE);
        for (int n : new int[] {-1, 7, NONE, LOW, HIGH}) {
            refused("learn", x -> x.learn(n), BAD);
        }
    }

    private void books() {
        for (int r : new int[] {-1, 6, LOW, HIGH}) {
            refused("fits of none", x -> x.fits(r), BAD);
            refused("kinds of none", x -> x.kinds(r, 0, 0), BAD);
            refused("lies of none", x -> x.lies(r), BAD);
        }
        for (int thing : new int[] {-1, 6, NONE, LOW, HIGH}) {
            for (int r : new int[] {PAIRS, MISSING, ODD, WRONG}) {
                refused("kinds, no usual: first", x -> x.kinds(r, thing, 0), BAD);
                refused("kinds, no other: first", x -> x.kinds(r, 0, thing), BAD);
            }
        }
        finds("fits of a missing row", x -> x.fits(MISSING), NOTHING);
        finds("kinds of a missing row", x -> x.kinds(MISSING, 0, 0), NOTHING);
        finds("lies of a missing row", x -> x.lies(MISSING), NOTHING);
        finds("fits not by pairs", x -> x.fits(ODD), SIZE);
        finds("kinds not by pairs", x -> x.kinds(ODD, 0, 0), SIZE);
        finds("lies not by pairs", x -> x.lies(ODD), SIZE);
        finds("fits of no thing", x -> x.fits(WRONG), UNLIKE);
        finds("kinds of no thing", x -> x.kinds(WRONG, 0, 0), UNLIKE);
        finds("lies of no thing", x -> x.lies(WRONG), UNLIKE);
        refused("apart of the same two", x -> x.apart(1, 1, 0, 9), BAD);
        refused("apart, the second below the first", x -> x.apart(0, 1, 5, 4), BAD);
        for (int m : new int[] {-1, 1000, NONE, LOW, HIGH}) {
            refused("apart from no morning", x -> x.apart(0, 1, m, 999), BAD);
            refused("apart to no morning", x -> x.apart(0, 1, 0, m), BAD);
            refused("apart from and to no morning", x -> x.apart(0, 1, m, m), BAD);
        }
    }

    private void chances() {
        for (int thing : new int[] {-1, 6, NONE, LOW, HIGH}) {
            refused("sour by no thing", x -> x.sour(thing), BAD);
        }
        for (int n : new int[] {-1, 0, 4, LOW, HIGH}) {
            refused("odds", x -> x.odds(n), BAD);
        }
        for (int n : new int[] {-1, 0, 21, LOW, HIGH}) {
            refused("lots, no such number", x -> x.lots(n, 1), BAD);
        }
        for (int seed : new int[] {-1, 0, HIGH, LOW}) {
            refused("lots, no seed", x -> x.lots(1, seed), BAD);
        }
    }

    private void told() {
        for (int what : new int[] {-1, 10, NONE, LOW, HIGH}) {
            refused("count", x -> x.count(what), BAD);
        }
        for (int f : new int[] {-1, 0, 6, NONE, LOW, HIGH}) {
            refused("findings", x -> x.findings(f), BAD);
        }
        finds("on from a place that is missing", x -> x.on(2), NOTHING);
    }

    private void withoutRegulars() {
        refused("regular", x -> x.regular(0, 0), BAD);
        refused("mark", x -> x.mark(0, 1), BAD);
        refused("other", x -> x.other(0, 0), BAD);
        refused("serve", x -> x.serve(0, 0), BAD);
        refused("serve, asked", x -> x.serve(0, NONE), BAD);
        refused("morning", x -> x.morning(), STATE);
        refused("undo(1)", x -> x.undo(1), BAD);
        refused("keep(0)", x -> x.keep(0), STATE);
        refused("keep(3): BAD ahead of STATE", x -> x.keep(3), BAD);
        refused("parts", x -> x.parts(0, 1), BAD);
        refused("wants", x -> x.wants(0, 0), BAD);
        finds("likely", x -> x.likely(NONE, NONE, 0), NOUGHT);
        finds("takes", x -> x.takes(NONE, NONE, NONE), NOUGHT);
        finds("quickest", x -> x.quickest(NONE, NONE), NOUGHT);
        // STATE comes ahead of all findings of a row.
        for (int r : new int[] {PAIRS, EMPTY, ODD, LONG, WRONG, MISSING}) {
            refused("queue", x -> x.queue(r), STATE);
            refused("by", x -> x.by(r, 0), STATE);
            refused("by: BAD ahead of STATE", x -> x.by(r, 10000), BAD);
            refused("order", x -> x.order(r), STATE);
            refused("lies", x -> x.lies(r), STATE);
        }
        refused("queue of none: BAD ahead of STATE", x -> x.queue(6), BAD);
        refused("by of none: BAD ahead of STATE", x -> x.by(6, 0), BAD);
        refused("order to none: BAD ahead of STATE", x -> x.order(6), BAD);
        refused("lies of none: BAD ahead of STATE", x -> x.lies(6), BAD);
        refused("learn(1)", x -> x.learn(1), STATE);
        refused("learn(7): BAD ahead of STATE", x -> x.learn(7), BAD);
        finds("fits not by pairs", x -> x.fits(ODD), SIZE);
        finds("kinds of no thing", x -> x.kinds(WRONG, 0, 0), UNLIKE);
        refused("apart", x -> x.apart(0, 1, 0, 9), BAD);
        refused("odds(1)", x -> x.odds(1), STATE);
        refused("odds(4): BAD ahead of STATE", x -> x.odds(4), BAD);
        refused("lots(1, 1)", x -> x.lots(1, 1), STATE);
        refused("lots(21, 1): BAD ahead of STATE", x -> x.lots(21, 1), BAD);
        refused("lots(1, 0): BAD ahead of STATE", x -> x.lots(1, 0), BAD);
        finds("on(0)", x -> x.on(0), NOTHING);
    }

    private void withFive() {
        refused("learn(6) of five", x -> x.learn(6), STATE);
        refused("regular(5, 0) of five", x -> x.regular(5, 0), BAD);
        refused("serve(5, 0) of five", x -> x.serve(5, 0), BAD);
        refused("undo(1) without turns", x -> x.undo(1), BAD);
        finds("quickest, as only a sixth one would look", x -> x.quickest(2, 2), NOUGHT);
    }

    private void withOneTurnLeft() {
        refused("lots(2, 1)", x -> x.lots(2, 1), FULL);
        refused("lots(20, 1)", x -> x.lots(20, 1), FULL);
        refused("lots(21, 1): BAD ahead of FULL", x -> x.lots(21, 1), BAD);
        refused("lots(2, 0): BAD ahead of FULL", x -> x.lots(2, 0), BAD);
        refused("undo(60)", x -> x.undo(60), BAD);
    }

    private void withoutTurnsLeft() {
        refused("serve, laid out", x -> x.serve(0, 0), FULL);
        refused("serve, asked", x -> x.serve(1, NONE), FULL);
        refused("serve of none: BAD ahead of FULL", x -> x.serve(2, 0), BAD);
        refused("serve, no thing: BAD ahead of FULL", x -> x.serve(0, 6), BAD);
        refused("morning", x -> x.morning(), FULL);
        refused("lots(1, 1)", x -> x.lots(1, 1), FULL);
        refused("lots(0, 1): BAD ahead of FULL", x -> x.lots(0, 1), BAD);
        refused("undo(61)", x -> x.undo(61), BAD);
    }
}
