/** Promises 8 to 14: text, put, fault, shop, regular, mark, other. */
public final class TextsTest {
    public static void main(String[] args) {
        text();
        put();
        fault();
        faultRefused();
        shop();
        shopAnew();
        regular();
        markOfSilentAndShy();
        markOfChangers();
        markOfHurried();
        markRefused();
        other();
        Check.end();
    }

    private static void text() {
        TheUsual x = new TheUsual();
        Check.due("text(3, 60)", x.text(3, 60), 60);
        Check.due("text(3, 60): blank", x.put(3, 59, 1), 1032);
        Check.due("text(3, 60) anew", x.text(3, 60), 60);
        Check.due("text(3, 60) anew: blank", x.put(3, 59, 1), 1032);
        Check.due("text(0, 0)", x.text(0, 0), 0);
        Check.due("two texts", x.count(8), 2);
        Check.due("text(0, 61)", x.text(0, 61), TheUsual.BAD);
        Check.due("text(4, 1)", x.text(4, 1), TheUsual.BAD);
        Check.due("text(-1, -1): BAD first", x.text(-1, -1), TheUsual.BAD);
        Check.finds("text(0, -1)", x, 0, x.text(0, -1), 5);
        Check.due("refused texts change nothing", x.count(8), 2);
    }

    private static void put() {
        TheUsual x = new TheUsual();
        x.text(0, 2);
        Check.due("put 127", x.put(0, 1, 127), 1032);
        Check.due("put 128, cut", x.put(0, 1, 128), 1127);
        Check.due("put 255, cut", x.put(0, 1, 255), 872);
        Check.due("put 256, cut", x.put(0, 1, 256), 999);
        Check.due("put -1", x.put(0, 1, -1), 1000);
        Check.due("put min", x.put(0, 1, Integer.MIN_VALUE), 999);
        Check.due("put 5", x.put(0, 1, 5), 1000);
        Check.due("put: the other byte", x.put(0, 0, 5), 1032);
        Check.due("put leaves asked()", x.asked(), 0);
        Check.due("put(4, ..)", x.put(4, 0, 0), TheUsual.BAD);
        Check.due("put(-1, ..)", x.put(-1, 0, 0), TheUsual.BAD);
        Check.finds("put: none there", x, 0, x.put(1, 5, 0), 1);
        Check.finds("put: behind", x, 0, x.put(0, 2, 0), 2);
        Check.finds("put: ahead", x, 1, x.put(0, -1, 0), 2);
    }

    private static void faultIs(String signs, int place) {
        TheUsual x = new TheUsual();
        Check.text(x, 2, signs);
        Check.due("fault of '" + signs + "'", x.fault(2), place);
        Check.due("shop of '" + signs + "'", x.shop(2) < 0 ? 0 : 1, place == TheUsual.NONE ? 1 : 0);
    }

    private static void fault() {
        faultIs("r00001", TheUsual.NONE);
        faultIs("f33559", TheUsual.NONE);
        faultIs("  s00001c00001   h00001 y00001  ", TheUsual.NONE);
        faultIs("r00001r00001r00001r00001r00001r00001", TheUsual.NONE);
        faultIs("r00001r00001r00001r00001r00001r00001   ", TheUsual.NONE);
        faultIs("r00001r00001r00001r00001r00001r00001  r00001", 38);
        faultIs("r00001r00001r00001r00001r00001r00001x", 36);
        faultIs("", 0);
        faultIs("     ", 5);
        faultIs("x", 0);
        faultIs(" R00001", 1);
        faultIs("r", 1);
        faultIs("r0000", 5);
        faultIs("r40001", 1);
        faultIs("r04001", 2);
        faultIs("r00601", 3);
        faultIs("r00061", 4);
        faultIs("r00000", 5);
        faultIs("r0000:", 5);
        faultIs("r/0001", 1);
        faultIs("r00/01", 3);
        faultIs("r 0001", 1);
        faultIs("r0000 ", 5);
        faultIs("r000010", 6);
        faultIs("r00001 c0000", 12);
        faultIs("r00001 rr0001", 8);
        faultIs("0r00001", 0);
        faultIs("\tr00001", 0);
        faultIs("r00001" + (char) 160, 6);
        faultIs("b00001", 0);
        faultIs("q00001", 0);
        faultIs("t00001", 0);
        faultIs("                                                       y2345", 60);
        faultIs("                                                      y23459", TheUsual.NONE);
    }

    private static void faultRefused() {
        TheUsual x = new TheUsual();
        Check.due("fault(4)", x.fault(4), TheUsual.BAD);
        Check.due("fault(-1)", x.fault(-1), TheUsual.BAD);
        Check.finds("fault: none there", x, 0, x.fault(3), 1);
    }

    private static void shop() {
        TheUsual x = new TheUsual();
        Check.due("shop(4)", x.shop(4), TheUsual.BAD);
        Check.due("shop(-1)", x.shop(-1), TheUsual.BAD);
        Check.finds("shop: none there", x, 0, x.shop(1), 1);
        Check.text(x, 1, " r00011 s12345c23456 ");
        Check.due("shop(1)", x.shop(1), 3);
        Check.due("shop(1): count(0)", x.count(0), 3);
        x.serve(0, 0);
        long digest = x.digest();
        Check.text(x, 1, "r0001");
        Check.due("shop: a fault", x.shop(1), TheUsual.STATE);
        Check.text(x, 1, " r00011 s12345c23456 ");
        Check.due("a refused shop changes nothing", x.digest(), digest);
        Check.due("no finding by a fault", x.findings(2) + x.findings(3) + x.findings(4) + x.findings(5), 0);
    }

    private static void shopAnew() {
        TheUsual x = Check.shop("s00011 r00011");
        x.serve(0, 2);
        x.serve(0, 2);
        x.morning();
        x.serve(1, 2);
        x.keep(0);
        x.keep(2);
        Check.text(x, 3, "s01235");
        Check.due("shop anew", x.shop(3), 1);
        for (int what = 1; what <= 5; what++) {
            Check.due("shop anew: count(" + what + ")", x.count(what), 0);
        }
        Check.due("shop anew: no kept shops", x.count(9), 0);
        Check.finds("shop anew: on(0)", x, 0, x.on(0), 1);
        Check.due("shop anew: served", Check.asked(x, x.regular(0, 6)), 0);
        Check.due("shop anew: sour", Check.asked(x, x.regular(0, 7)), 0);
        Check.due("shop anew: fewer regulars", x.regular(1, 0), TheUsual.BAD);
        Check.due("shop anew: undo(1)", x.undo(1), TheUsual.BAD);
    }

    private static void regular() {
        TheUsual x = Check.shop("r01234 s12345 c20501 h31119 y02452 f13057");
        int[][] facts = {{0, 0, 1, 2, 3, 4}, {1, 1, 2, 3, 4, 5}, {2, 2, 0, 5, 0, 1},
            {3, 3, 1, 1, 1, 9}, {4, 0, 2, 4, 5, 2}, {5, 1, 3, 0, 5, 7}};
        for (int p = 0; p < 6; p++) {
            for (int what = 0; what < 6; what++) {
                Check.due("regular(" + p + ", " + what + ")", Check.asked(x, x.regular(p, what)), facts[p][what]);
            }
        }
        x.serve(4, 0);
        x.serve(4, 4);
        x.serve(4, 0);
        Check.due("how often served", Check.asked(x, x.regular(4, 6)), 3);
        Check.due("how often sour", Check.asked(x, x.regular(4, 7)), 2);
        Check.due("another one is not served", Check.asked(x, x.regular(3, 6)), 0);
        Check.due("wants on morning 0", Check.asked(x, x.regular(4, 8)), 4);
        x.morning();
        Check.due("wants on morning 1", Check.asked(x, x.regular(4, 8)), 5);
        Check.due("regular(0, 9)", x.regular(0, 9), TheUsual.BAD);
        Check.due("regular(0, -1)", x.regular(0, -1), TheUsual.BAD);
        Check.due("regular(6, 0)", x.regular(6, 0), TheUsual.BAD);
        Check.due("regular(-1, 0)", x.regular(-1, 0), TheUsual.BAD);
        Check.due("refused: asked() as it was", x.asked(), 5);
    }

    private static void markOfSilentAndShy() {
        TheUsual x = Check.shop("s12015 y12345 r12111 y13005 h02001");
        Check.due("mark of a silent one", x.mark(0, 1), 5);
        Check.due("mark of a shy one as silent", x.mark(1, 1), 5);
        Check.due("mark of a shy one: two more look so", x.mark(1, 4), 2);
        Check.due("mark of a shy one: nobody looks so", x.mark(3, 4), 0);
    }

    private static void markOfChangers() {
        TheUsual x = Check.shop("c00011 f00011 c00111 f00111");
        int[] changer = {3, 2, 1, TheUsual.NONE, TheUsual.NONE, TheUsual.NONE};
        int[] friday = {3, 2, 1, 1, 1, 4, 3, 2, 1, 1, 4};
        for (int m = 0; m < friday.length; m++) {
            int due = m < changer.length ? changer[m] : TheUsual.NONE;
            Check.due("mark of a changer on " + m, x.mark(0, 2), due);
            Check.due("mark of a friday one as changer on " + m, x.mark(1, 2), friday[m]);
            Check.due("mark of a changer without another thing on " + m, x.mark(2, 2), TheUsual.NONE);
            Check.due("mark of a friday one on " + m, x.mark(1, 5), 5);
            x.morning();
        }
        Check.due("mark of a friday one whose other is its usual", x.mark(3, 5), 10);
    }

    private static void markOfHurried() {
        TheUsual x = Check.shop("h00011");
        Check.due("mark of a hurried one", x.mark(0, 3), 69);
        x.serve(0, 0);
        Check.due("mark of a hurried one, served once", x.mark(0, 3), 69);
        x.serve(0, 0);
        Check.due("mark of a hurried one, known", x.mark(0, 3), 59);
    }

    private static void markRefused() {
        TheUsual x = Check.shop("r00011 s00011 c00011 h00011 y00011 f00011");
        boolean[][] is = {{false, false, false, false, false}, {true, false, false, false, false},
            {false, true, false, false, false}, {false, false, true, false, false},
            {true, false, false, true, false}, {false, true, false, false, true}};
        int unlike = 0;
        for (int p = 0; p < 6; p++) {
            for (int kind = 1; kind < 6; kind++) {
                if (is[p][kind - 1]) {
                    Check.due("mark(" + p + ", " + kind + ") is told", x.mark(p, kind) > 0 ? 1 : 0, 1);
                } else {
                    Check.finds("mark(" + p + ", " + kind + ")", x, unlike++, x.mark(p, kind), 3);
                }
            }
            Check.due("mark(" + p + ", 0)", x.mark(p, 0), TheUsual.BAD);
            Check.due("mark(" + p + ", 6)", x.mark(p, 6), TheUsual.BAD);
            Check.due("mark(" + p + ", -1)", x.mark(p, -1), TheUsual.BAD);
        }
        Check.due("mark(6, 1)", x.mark(6, 1), TheUsual.BAD);
        Check.due("mark(-1, 1)", x.mark(-1, 1), TheUsual.BAD);
        Check.due("mark leaves asked()", x.asked(), 0);
    }

    private static void other() {
        TheUsual x = Check.shop("c00011 r00231");
        Check.due("other(0, 5)", x.other(0, 5), 1);
        Check.due("other(0, 0)", x.other(0, 0), 5);
        Check.due("other(1, 4)", x.other(1, 4), 3);
        Check.due("its other now", Check.asked(x, x.regular(1, 4)), 4);
        x.other(0, 3);
        Check.due("it wants its other now", x.wants(0, 3), 3);
        Check.due("other(2, 0)", x.other(2, 0), TheUsual.BAD);
        Check.due("other(-1, 0)", x.other(-1, 0), TheUsual.BAD);
        Check.due("other(0, 6)", x.other(0, 6), TheUsual.BAD);
        Check.due("other(0, NONE)", x.other(0, TheUsual.NONE), TheUsual.BAD);
        x.morning();
        Check.due("other with turns", x.other(0, 1), TheUsual.STATE);
        Check.due("other with turns: BAD first", x.other(0, 6), TheUsual.BAD);
        Check.due("it wants what it wanted", x.wants(0, 3), 3);
        x.undo(0);
        Check.due("other, turns undone", x.other(0, 1), 3);
    }
}
