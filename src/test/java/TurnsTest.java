/** Promises 15 to 19: serve, morning, undo, keep, on. */
public final class TurnsTest {
    public static void main(String[] args) {
        serve();
        serveSilentOnes();
        serveOnLaterMornings();
        serveRefused();
        morning();
        undo();
        undoMornings();
        keepAndOn();
        onIsAsKept();
        keepWhatWasLaidOut();
        keepSix();
        keepRefused();
        Check.end();
    }

    private static void serve() {
        TheUsual x = Check.shop("r00011 h00011 c00011 f00011");
        int[] wrong = {59, 69, 59, 59};
        for (int p = 0; p < 4; p++) {
            Check.due("a stranger, asked", x.serve(p, TheUsual.NONE), 40);
            Check.due("wrong", x.serve(p, 5), wrong[p]);
            Check.due("known, asked", x.serve(p, TheUsual.NONE), 30);
            Check.due("known, wrong", x.serve(p, 1), wrong[p] - 10);
            Check.due("known, right", x.serve(p, 0), 9);
            Check.due("served", Check.asked(x, x.regular(p, 6)), 5);
            Check.due("not sour", Check.asked(x, x.regular(p, 7)), 0);
        }
        Check.due("a stranger, right", Check.shop("r00011").serve(0, 0), 9);
        Check.due("seconds", x.count(2), 3 * (40 + 59 + 30 + 49 + 9) + 40 + 69 + 30 + 59 + 9);
        Check.due("turns", x.count(3), 20);
        Check.due("known ones", x.count(4), 4);
    }

    private static void serveSilentOnes() {
        TheUsual x = Check.shop("s00011 y00011");
        for (int p = 0; p < 2; p++) {
            Check.due("silent, asked", x.serve(p, TheUsual.NONE), 40);
            Check.due("silent, wrong", x.serve(p, 5), 9);
            Check.due("silent, right", x.serve(p, 0), 9);
            Check.due("silent, known, asked", x.serve(p, TheUsual.NONE), 30);
            Check.due("silent, known, wrong", x.serve(p, 1), 9);
            Check.due("served", Check.asked(x, x.regular(p, 6)), 5);
            Check.due("sour", Check.asked(x, x.regular(p, 7)), 2);
        }
        Check.due("sour, any", x.count(5), 4);
    }

    private static void serveOnLaterMornings() {
        TheUsual x = Check.shop("y00015 c00015 f00015");
        x.morning();
        Check.due("shy, its other on an odd morning", x.serve(0, 1), 9);
        Check.due("not sour by its other", x.count(5), 0);
        x.serve(0, 0);
        Check.due("sour by its usual", x.count(5), 1);
        Check.due("a changer ahead of morning 3", x.serve(1, 0), 9);
        x.morning();
        x.morning();
        Check.due("a changer on morning 3", x.serve(1, 1), 9);
        Check.due("a friday one on morning 3", x.serve(2, 1), 9);
        x.morning();
        Check.due("a changer on morning 4", x.serve(1, 1), 9);
        Check.due("a friday one on morning 4", x.serve(2, 0), 9);
    }

    private static void serveRefused() {
        TheUsual x = Check.shop("h00011");
        Check.due("serve(1, 0)", x.serve(1, 0), TheUsual.BAD);
        Check.due("serve(-1, 0)", x.serve(-1, 0), TheUsual.BAD);
        Check.due("serve(0, 6)", x.serve(0, 6), TheUsual.BAD);
        Check.due("serve(0, -1)", x.serve(0, -1), TheUsual.BAD);
        Check.due("serve(0, -8)", x.serve(0, -8), TheUsual.BAD);
        Check.due("refused: no turns", x.count(3), 0);
        for (int i = 0; i < 60; i++) {
            Check.due("serve, turn " + i, x.serve(0, 1), i < 2 ? 69 : 59);
        }
        long digest = x.digest();
        Check.due("serve, turn 60", x.serve(0, 1), TheUsual.FULL);
        Check.due("morning, turn 60", x.morning(), TheUsual.FULL);
        Check.due("serve(1, 0), full: BAD first", x.serve(1, 0), TheUsual.BAD);
        Check.due("refused changes nothing", x.digest(), digest);
    }

    private static void morning() {
        TheUsual x = new TheUsual();
        Check.due("morning without regulars", x.morning(), TheUsual.STATE);
        x = Check.shop("r00011");
        x.serve(0, 0);
        Check.due("morning", x.morning(), 1);
        Check.due("morning: seconds", x.count(2), 0);
        Check.due("morning: a turn", x.count(3), 2);
        Check.due("morning: count(1)", x.count(1), 1);
        for (int m = 2; m < 60; m++) {
            Check.due("morning " + m, x.morning(), m);
        }
        Check.due("morning, turn 60", x.morning(), TheUsual.FULL);
        Check.due("the morning stays", x.count(1), 59);
    }

    private static void undo() {
        TheUsual x = Check.shop("s00011 r00011");
        long[] digests = new long[9];
        int[] who = {0, 1, 1, -1, 0, 1, -1, 0};
        for (int i = 0; i < who.length; i++) {
            digests[i] = x.digest();
            Check.due("a turn", who[i] < 0 ? Math.min(x.morning(), 0) : Math.min(x.serve(who[i], 3), 0), 0);
        }
        Check.due("undo(9)", x.undo(9), TheUsual.BAD);
        Check.due("undo(-1)", x.undo(-1), TheUsual.BAD);
        long last = x.digest();
        Check.due("undo(8)", x.undo(8), 0);
        Check.due("undo(8) changes nothing", x.digest(), last);
        int ahead = 8;
        for (int n : new int[] {7, 5, 4, 2, 0}) {
            Check.due("undo(" + n + ")", x.undo(n), ahead - n);
            Check.due("undo(" + n + "): all as it was", x.digest(), digests[n]);
            ahead = n;
        }
        Check.due("undo(1), none left", x.undo(1), TheUsual.BAD);
        Check.due("undo(0), none left", x.undo(0), 0);
    }

    private static void undoMornings() {
        TheUsual x = Check.shop("h00011");
        x.serve(0, 0);
        x.serve(0, 1);
        x.morning();
        x.serve(0, 0);
        Check.due("undo a morning and what came behind", x.undo(2), 2);
        Check.due("the morning ahead", x.count(1), 0);
        Check.due("its seconds", x.count(2), 78);
        Check.due("known still", x.serve(0, 1), 59);
        x.undo(1);
        Check.due("not known any more", x.serve(0, 1), 69);
    }

    private static void keepAndOn() {
        TheUsual x = Check.shop("s00011 r00011");
        Check.due("keep without turns", x.keep(0), 0);
        x.serve(0, 5);
        x.morning();
        x.serve(1, 5);
        Check.due("keep(1)", x.keep(1), 3);
        Check.due("two kept", x.count(9), 2);
        long digest = x.digest();
        x.serve(1, 5);
        x.morning();
        Check.due("on(1)", x.on(1), 3);
        Check.due("on(1): all as it was", x.digest(), digest);
        Check.due("on(0)", x.on(0), 0);
        Check.due("on(0): not sour", x.count(5), 0);
        Check.due("on(0): seconds", x.count(2), 0);
        Check.due("on(1) once more", x.on(1), 3);
        Check.due("on(1) once more: all as it was", x.digest(), digest);
        Check.due("undo what was gone on from", x.undo(1), 2);
        Check.due("kept shops stay as they were", x.on(1), 3);
        Check.due("on(1): morning", x.count(1), 1);
        Check.due("on(1): seconds", x.count(2), 59);
    }

    private static void onIsAsKept() {
        TheUsual x = Check.shop("c00011 s01231");
        x.keep(0);
        x.other(0, 4);
        x.serve(1, 0);
        x.keep(1);
        x.serve(1, 0);
        Check.due("keep over another", x.keep(2), 2);
        x.undo(0);
        x.other(0, 5);
        Check.due("keep over another", x.keep(2), 0);
        Check.due("three kept", x.count(9), 3);
        Check.due("on(0)", x.on(0), 0);
        Check.due("on(0): its other", x.wants(0, 3), 1);
        Check.due("on(1)", x.on(1), 1);
        Check.due("on(1): its other", x.wants(0, 3), 4);
        Check.due("on(1): sour once", Check.asked(x, x.regular(1, 7)), 1);
        Check.due("on(2)", x.on(2), 0);
        Check.due("on(2): its other", x.wants(0, 3), 5);
        Check.due("on(2): other may be set", x.other(0, 2), 5);
        Check.due("on(2) again", x.on(2), 0);
        Check.due("on(2) again: its other", x.wants(0, 3), 5);
    }

    private static void keepWhatWasLaidOut() {
        TheUsual x = Check.shop("s00011 h00231");
        int[] laid = {0, 5, TheUsual.NONE, 0, 3};
        for (int thing : laid) {
            x.serve(0, thing);
            x.serve(1, 2);
        }
        x.keep(0);
        long digest = x.digest();
        x.undo(0);
        x.serve(1, TheUsual.NONE);
        x.on(0);
        Check.due("on(0), unlike things laid out", x.digest(), digest);
        x.undo(3);
        Check.due("undo(3): sour", x.count(5), 1);
        Check.due("undo(3): seconds", x.count(2), 27);
    }

    private static void keepSix() {
        TheUsual x = Check.shop("r00001 r00011 r00021 r00031 r00041 r00051");
        x.keep(2);
        for (int p = 0; p < 6; p++) {
            x.other(p, 5 - p);
        }
        x.on(2);
        for (int p = 0; p < 6; p++) {
            Check.due("on(2), six: its other", Check.asked(x, x.regular(p, 4)), p);
        }
    }

    private static void keepRefused() {
        TheUsual x = new TheUsual();
        Check.due("keep without regulars", x.keep(0), TheUsual.STATE);
        Check.due("keep(3) without regulars: BAD first", x.keep(3), TheUsual.BAD);
        Check.due("keep(-1)", x.keep(-1), TheUsual.BAD);
        Check.due("on(3)", x.on(3), TheUsual.BAD);
        Check.due("on(-1)", x.on(-1), TheUsual.BAD);
        Check.finds("on(2), none kept", x, 0, x.on(2), 1);
        Check.due("none kept", x.count(9), 0);
    }
}
