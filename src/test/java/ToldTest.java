/** Promises 37 to 43: asked, upper, lower, count, finding, findings, digest. */
public final class ToldTest {
    public static void main(String[] args) {
        asked();
        upperAndLower();
        count();
        findings();
        digestOfNothing();
        digestOfAll();
        digestIsAside();
        Check.end();
    }

    private static void asked() {
        TheUsual x = new TheUsual();
        Check.due("asked() before", x.asked(), 0);
        Check.text(x, 0, "s00011 r01149");
        x.shop(0);
        Check.row(x, 0, 5, 6, 0, 1);
        Check.due("asked() by lay", x.asked(), 0);
        x.at(0, 1);
        Check.due("asked() by at", x.asked(), 6);
        x.mean(0);
        Check.due("asked() by mean", x.asked(), 3);
        x.regular(1, 5);
        Check.due("asked() by regular", x.asked(), 9);
        x.quickest(0, TheUsual.NONE);
        Check.due("asked() by quickest", x.asked(), 1);
        x.row(1, 4);
        x.queue(1);
        Check.due("asked() by queue", x.asked(), 80);
        x.learn(1);
        Check.due("asked() by learn", x.asked(), 40 + 81);
        Check.row(x, 1, 0, 1);
        x.lies(1);
        Check.due("asked() by lies", x.asked(), 1);
        x.sour(5);
        x.learn(0);
        x.sour(5);
        Check.due("asked() by sour", x.asked(), 1);
        x.learn(0);
        theOthersLeaveAsked(x);
        Check.due("asked() by no other one", x.asked(), 400);
    }

    private static void theOthersLeaveAsked(TheUsual x) {
        x.row(2, 3);
        x.tear(2);
        x.copy(0, 0, 0, 1, 2);
        x.text(1, 4);
        x.put(1, 0, 3);
        x.fault(1);
        x.mark(0, 1);
        x.other(0, 1);
        x.serve(0, 1);
        x.morning();
        x.undo(1);
        x.keep(0);
        x.on(0);
        x.who(0, 0);
        x.parts(0, 1);
        x.wants(0, 0);
        x.likely(0, 0, 0);
        x.takes(0, 0, 0);
        x.row(3, 2);
        x.by(3, 40);
        x.order(4);
        x.fits(3);
        x.kinds(3, 0, 1);
        x.apart(0, 1, 0, 9);
        x.odds(2);
        x.lots(2, 3);
        x.count(3);
        x.findings(3);
        x.digest();
        x.at(5, 0);
        x.shop(0);
    }

    private static void upperAndLower() {
        TheUsual x = new TheUsual();
        Check.due("upper() before", x.upper(), 0);
        Check.due("lower() before", x.lower(), 1);
        Check.text(x, 0, "r00012 r01144");
        x.shop(0);
        x.likely(0, TheUsual.NONE, 0);
        Check.due("upper() by likely", x.upper(), 1);
        Check.due("lower() by likely", x.lower(), 3);
        x.takes(0, TheUsual.NONE, 0);
        Check.due("upper() by takes", x.upper(), (2 * 9 + 4 * 59) / 2);
        Check.due("lower() by takes", x.lower(), 3);
        x.odds(3);
        Check.due("upper() by odds", x.upper(), 1);
        Check.due("lower() by odds", x.lower(), 3);
        x.likely(0, TheUsual.NONE, 5);
        Check.due("upper() of none", x.upper(), 0);
        Check.due("lower() of none", x.lower(), 1);
        x.odds(3);
        x.odds(4);
        x.likely(3, 3, 0);
        x.shop(0);
        Check.due("refused: upper() as it was", x.upper(), 1);
        Check.due("refused: lower() as it was", x.lower(), 3);
    }

    private static void count() {
        TheUsual x = Check.shop("s00011 y01149 h00011 c00011");
        x.serve(0, 3);
        x.serve(1, 3);
        x.serve(1, 3);
        x.morning();
        x.serve(0, 3);
        x.serve(2, TheUsual.NONE);
        x.row(0, 0);
        x.row(5, 1);
        x.row(4, 40);
        x.text(3, 1);
        x.keep(1);
        int[] counts = {4, 1, 49, 6, 2, 4, 2, 3, 2, 1};
        for (int what = 0; what < 10; what++) {
            Check.due("count(" + what + ")", x.count(what), counts[what]);
        }
        countOfSixAndThenOne();
        Check.due("count(10)", x.count(10), TheUsual.BAD);
        Check.due("count(-1)", x.count(-1), TheUsual.BAD);
    }

    private static void countOfSixAndThenOne() {
        TheUsual x = Check.shop("s00011 s00011 s00011 s00011 s00011 s00011");
        for (int p = 0; p < 6; p++) {
            x.serve(p, 0);
            x.serve(p, 5);
        }
        Check.due("six known", x.count(4), 6);
        Check.due("six times sour", x.count(5), 6);
        Check.due("six silent", x.count(6), 6);
        Check.text(x, 0, "r00011");
        x.shop(0);
        Check.due("then nobody known", x.count(4), 0);
        Check.due("then nobody sour", x.count(5), 0);
        Check.due("then nobody silent", x.count(6), 0);
    }

    private static void findings() {
        TheUsual x = new TheUsual();
        Check.due("finding() before", x.finding(), 0);
        for (int f = 1; f <= 5; f++) {
            Check.due("findings(" + f + ") before", x.findings(f), 0);
        }
        x.tear(0);
        x.tear(0);
        x.row(0, -1);
        x.row(0, 1);
        x.at(0, 1);
        x.row(0, 41);
        x.findings(9);
        Check.due("finding()", x.finding(), 2);
        int[] counted = {2, 1, 0, 0, 1};
        for (int f = 1; f <= 5; f++) {
            Check.due("findings(" + f + ")", x.findings(f), counted[f - 1]);
        }
        for (int f : new int[] {0, 6, -1, Integer.MAX_VALUE, Integer.MIN_VALUE}) {
            Check.due("findings(" + f + ")", x.findings(f), TheUsual.BAD);
        }
        Check.due("finding() stays", x.finding(), 2);
    }

    private static void digestOfNothing() {
        Check.due("digest of nothing", new TheUsual().digest(), Check.digest(
            0, 0, 0, 0, 0, 0, 0, 0, 0, 0,
            -1, -1, -1,
            -1, -1, -1, -1, -1, -1,
            -1, -1, -1, -1));
    }

    private static void digestOfAll() {
        TheUsual x = Check.shop("s01239 y32451");
        x.serve(0, 5);
        x.morning();
        x.keep(1);
        x.serve(1, 5);
        x.serve(1, 0);
        Check.row(x, 2, -5, Integer.MAX_VALUE);
        x.row(5, 0);
        x.text(3, 2);
        x.put(3, 1, 200);
        Check.due("digest of all", x.digest(), Check.digest(
            2, 1, 18, 4, 1, 2, 2, 2, 2, 1,
            1, 0, 1, 2, 3, 9, 1, 1, 2,
            4, 3, 2, 4, 5, 1, 2, 1, 5,
            -1, 2, -1,
            -1, -1, 2, -5, Integer.MAX_VALUE, -1, -1, 0,
            13, 115, 48, 49, 50, 51, 57, 32, 121, 51, 50, 52, 53, 49,
            -1, -1, 2, 32, -56));
    }

    private static void digestIsAside() {
        TheUsual x = Check.shop("s01239 y32451");
        Check.row(x, 2, 7, 8);
        x.at(2, 1);
        Check.due("digest, twice", x.digest(), x.digest());
        Check.due("digest leaves asked()", x.asked(), 8);
    }
}
