/** Promises 26 to 29: queue, by, order, learn. */
public final class QueuesTest {
    public static void main(String[] args) {
        queue();
        queueWithKnownOnes();
        queueIsAside();
        by();
        queueRefused();
        order();
        orderRefused();
        learn();
        learnRefused();
        Check.end();
    }

    private static void queueIs(TheUsual x, int leave, int gone, int... pairs) {
        Check.row(x, 3, pairs);
        Check.due("queue: who leave", x.queue(3), leave);
        Check.due("queue: when all have gone", x.asked(), gone);
    }

    private static void queue() {
        TheUsual x = Check.shop("r00011 h00011 s00011");
        queueIs(x, 0, 0);
        queueIs(x, 0, 40, 0, 0);
        queueIs(x, 0, 1039, 0, 999);
        queueIs(x, 0, 80, 0, 0, 2, 0);
        queueIs(x, 0, 140, 0, 0, 2, 100);
        // A wait of 60 seconds, and of 61.
        queueIs(x, 0, 120, 0, 0, 0, 0, 2, 20);
        queueIs(x, 1, 80, 0, 0, 0, 0, 2, 19);
        // Of a hurried one 20, and 21.
        queueIs(x, 0, 80, 0, 0, 1, 20);
        queueIs(x, 1, 40, 0, 0, 1, 19);
        // Whoever leaves takes no time.
        queueIs(x, 1, 80, 0, 0, 1, 19, 2, 19);
        queueIs(x, 1, 140, 0, 0, 1, 19, 2, 100);
        queueIs(x, 5, 120, 0, 0, 0, 0, 0, 0, 0, 0, 0, 20, 1, 20, 1, 21, 2, 59);
        queueIs(x, 6, 80, 0, 0, 0, 0, 0, 0, 0, 0, 0, 0, 0, 0, 0, 0, 0, 0);
    }

    private static void queueWithKnownOnes() {
        TheUsual x = Check.shop("r00011 h00011");
        x.serve(0, 0);
        x.serve(0, 0);
        queueIs(x, 0, 30, 0, 0);
        queueIs(x, 0, 70, 0, 0, 1, 10);
        // One who is served twice in a queue is not known by it.
        queueIs(x, 0, 240, 1, 0, 1, 40, 1, 80, 1, 120, 1, 160, 1, 200);
    }

    private static void queueIsAside() {
        TheUsual x = Check.shop("r00011 s00011");
        x.serve(0, 1);
        Check.row(x, 3, 0, 0, 1, 0);
        long digest = x.digest();
        x.queue(3);
        Check.due("a queue does not begin with the morning's seconds", x.asked(), 80);
        x.by(3, 100);
        Check.due("queues change nothing", x.digest(), digest);
    }

    private static void by() {
        TheUsual x = Check.shop("r00011 h00011 s00011");
        Check.row(x, 0, 0, 0, 1, 5, 2, 30, 0, 200);
        int[][] served = {{0, 0}, {39, 0}, {40, 1}, {79, 1}, {80, 2}, {239, 2}, {240, 3}, {9999, 3}};
        x.at(0, 3);
        for (int[] pair : served) {
            Check.due("by(0, " + pair[0] + ")", x.by(0, pair[0]), pair[1]);
        }
        Check.due("by leaves asked()", x.asked(), 5);
        x.row(1, 0);
        Check.due("by, nobody", x.by(1, 9999), 0);
    }

    private static void queueFinds(TheUsual x, int finding, int... pairs) {
        Check.row(x, 3, pairs);
        int ahead = x.findings(finding);
        Check.finds("queue", x, ahead, x.queue(3), finding);
        Check.finds("by", x, ahead + 1, x.by(3, 0), finding);
    }

    private static void queueRefused() {
        TheUsual x = new TheUsual();
        Check.due("queue(6)", x.queue(6), TheUsual.BAD);
        Check.due("queue(-1)", x.queue(-1), TheUsual.BAD);
        Check.due("by(6, 0)", x.by(6, 0), TheUsual.BAD);
        Check.due("queue without regulars, row", x.queue(0), TheUsual.STATE);
        Check.due("by without regulars, row", x.by(0, 0), TheUsual.STATE);
        Check.due("by(0, 10000): BAD first", x.by(0, 10000), TheUsual.BAD);
        Check.due("by(0, -1): BAD first", x.by(0, -1), TheUsual.BAD);
        x = Check.shop("r00011 h00011");
        Check.finds("queue: none there", x, 0, x.queue(3), 1);
        Check.finds("by: none there", x, 1, x.by(3, 0), 1);
        queueFinds(x, 5, 0);
        queueFinds(x, 5, 9, -1, 0);
        queueFinds(x, 5, 0, 0, 0, 0, 0, 0, 0, 0, 0, 0, 0, 0, 0, 0, 0, 0, 0, 0);
        queueFinds(x, 5, 9, 9, 9, 9, 9, 9, 9, 9, 9, 9, 9, 9, 9, 9, 9, 9, 9);
        queueFinds(x, 3, 2, 0);
        queueFinds(x, 3, -1, 0);
        queueFinds(x, 3, 0, 1000);
        queueFinds(x, 3, 0, -1);
        queueFinds(x, 3, 0, 5, 1, 4);
        queueFinds(x, 3, 0, 5, 1, 5, 1, 6, 0, 5);
        Check.due("refused: asked() as it was", x.asked(), 0);
    }

    private static void order() {
        TheUsual x = Check.shop("r00011 h00011 s00011 y00011");
        x.row(2, 9);
        Check.due("order of strangers", x.order(2), 40 + 80 + 120);
        Check.rowIs("order of strangers", x, 2, 0, 1, 2, 3);
        x.serve(2, 5);
        x.serve(2, TheUsual.NONE);
        x.serve(1, 0);
        Check.due("order, one known", x.order(5), 9 + 49 + 89);
        Check.rowIs("order, one known", x, 5, 2, 0, 1, 3);
        x.serve(1, 0);
        Check.due("order, two known", x.order(2), 9 + 18 + 58);
        Check.rowIs("order, two known", x, 2, 1, 2, 0, 3);
        int turns = x.count(3);
        x.order(2);
        Check.due("order is aside", x.count(3), turns);
        x = Check.shop("r00011 r00011 r00011 r00011 r00011 r00011");
        x.serve(5, 0);
        x.serve(5, 0);
        Check.due("order of six", x.order(0), 9 + 49 + 89 + 129 + 169);
        Check.rowIs("order of six", x, 0, 5, 0, 1, 2, 3, 4);
        x = Check.shop("r00011");
        Check.due("order of one", x.order(0), 0);
        Check.rowIs("order of one", x, 0, 0);
    }

    private static void orderRefused() {
        TheUsual x = new TheUsual();
        Check.due("order(6)", x.order(6), TheUsual.BAD);
        Check.due("order(-1)", x.order(-1), TheUsual.BAD);
        Check.due("order without regulars", x.order(0), TheUsual.STATE);
        Check.due("refused: no row", x.count(7), 0);
    }

    private static void learnIs(TheUsual x, int n, int set, int seconds) {
        Check.due("learn(" + n + ")", x.learn(n), set);
        Check.due("learn(" + n + "): seconds", x.asked(), seconds);
    }

    private static void learn() {
        TheUsual x = Check.shop("r00012 h00015 s00019 y00015 c00011");
        learnIs(x, 0, 0, 22 * 40);
        learnIs(x, 1, 4, 13 * 40 + 9 * 9);
        learnIs(x, 2, 4 + 2, 8 * 40 + 14 * 9);
        learnIs(x, 3, 4 + 2 + 8, 3 * 40 + 19 * 9);
        learnIs(x, 5, 31, 22 * 9);
        x.serve(4, 0);
        x.serve(4, 0);
        learnIs(x, 1, 4, 13 * 40 + 9 * 9);
        x = Check.shop("r00011 r00011 r00011 r00011 r00011 r00011");
        learnIs(x, 3, 7, 3 * 9 + 3 * 40);
        learnIs(x, 6, 63, 54);
        // The best one stands first, second, last.
        learnIs(Check.shop("r00012 h00011"), 1, 1, 40 + 2 * 9);
        learnIs(Check.shop("r00011 h00012"), 1, 2, 40 + 2 * 9);
        learnIs(Check.shop("r00011 r00011 r00011 r00011 r00011 r00012"), 1, 32, 5 * 40 + 2 * 9);
    }

    private static void learnRefused() {
        TheUsual x = Check.shop("r00012 h00015");
        Check.due("learn(7)", x.learn(7), TheUsual.BAD);
        Check.due("learn(-1)", x.learn(-1), TheUsual.BAD);
        Check.due("learn(3) of two", x.learn(3), TheUsual.STATE);
        Check.due("learn(1) of none", new TheUsual().learn(1), TheUsual.STATE);
        Check.due("learn(0) of none", new TheUsual().learn(0), 0);
        Check.due("refused: asked() as it was", x.asked(), 0);
    }
}
