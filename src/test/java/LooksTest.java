/** Promises 20 to 25: who, parts, wants, likely, takes, quickest. */
public final class LooksTest {
    private static final int NONE = TheUsual.NONE;

    public static void main(String[] args) {
        who();
        parts();
        wants();
        likely();
        takes();
        quickest();
        quickestOfAlikeOnes();
        Check.end();
    }

    private static void who() {
        TheUsual x = Check.shop("r00001 s01001 c10001 h00001 y33001 f31001");
        Check.due("who(0, 0)", x.who(0, 0), 1 + 8);
        Check.due("who(0, NONE)", x.who(0, NONE), 1 + 2 + 8);
        Check.due("who(NONE, 1)", x.who(NONE, 1), 2 + 32);
        Check.due("who(NONE, NONE)", x.who(NONE, NONE), 63);
        Check.due("who(3, 3)", x.who(3, 3), 16);
        Check.due("who(2, 0): nobody", x.who(2, 0), 0);
        for (int bad : new int[] {4, -1, -8, -10, Integer.MAX_VALUE, Integer.MIN_VALUE}) {
            Check.due("who(" + bad + ", 0)", x.who(bad, 0), TheUsual.BAD);
            Check.due("who(0, " + bad + ")", x.who(0, bad), TheUsual.BAD);
        }
        Check.due("who without regulars", new TheUsual().who(NONE, NONE), 0);
    }

    private static void parts() {
        TheUsual x = Check.shop("r00001 s01001 c10001 y00231 f31001");
        Check.due("parts by none", x.parts(0, 3), 0);
        Check.due("parts by the hat", x.parts(0, 2), 1);
        Check.due("parts by the step", x.parts(0, 1), 2);
        Check.due("parts by either", x.parts(4, 0), 3);
        Check.due("parts(0, 0)", x.parts(0, 0), TheUsual.BAD);
        Check.due("parts(0, 5)", x.parts(0, 5), TheUsual.BAD);
        Check.due("parts(5, 0)", x.parts(5, 0), TheUsual.BAD);
        Check.due("parts(-1, 0)", x.parts(-1, 0), TheUsual.BAD);
        Check.due("parts(0, -1)", x.parts(0, -1), TheUsual.BAD);
    }

    private static void wants() {
        TheUsual x = Check.shop("r00011 s00011 c00011 h00011 y00011 f00011");
        String[] byMorning = {"00000000000", "00000000000", "00011111111", "00000000000", "01010101010", "00010111101"};
        for (int p = 0; p < 6; p++) {
            for (int m = 0; m < 11; m++) {
                Check.due("wants(" + p + ", " + m + ")", x.wants(p, m), byMorning[p].charAt(m) - '0');
            }
        }
        Check.due("wants(2, 999)", x.wants(2, 999), 1);
        Check.due("wants(5, 999)", x.wants(5, 999), 0);
        Check.due("wants(5, 998)", x.wants(5, 998), 1);
        Check.due("wants(4, 999)", x.wants(4, 999), 1);
        Check.due("wants(0, 1000)", x.wants(0, 1000), TheUsual.BAD);
        Check.due("wants(0, -1)", x.wants(0, -1), TheUsual.BAD);
        Check.due("wants(6, 0)", x.wants(6, 0), TheUsual.BAD);
        Check.due("wants(-1, 0)", x.wants(-1, 0), TheUsual.BAD);
    }

    private static void likely() {
        TheUsual x = Check.shop("r00124 y00152 h01229 c02001");
        Check.fraction("likely all", x, x.likely(0, 0, 1), 1, 1);
        Check.fraction("likely none", x, x.likely(0, 0, 5), 0, 1);
        Check.fraction("likely by step", x, x.likely(NONE, 0, 1), 1, 1);
        Check.fraction("likely by hat", x, x.likely(0, NONE, 1), 3, 8);
        x.morning();
        Check.fraction("likely on morning 1", x, x.likely(0, 0, 1), 2, 3);
        Check.fraction("likely on morning 1", x, x.likely(0, 0, 5), 1, 3);
        Check.finds("likely: nobody looks so", x, 0, x.likely(3, 0, 0), 4);
        Check.due("refused: upper() as it was", x.upper(), 1);
        Check.due("refused: lower() as it was", x.lower(), 3);
        Check.due("likely(4, 0, 0)", x.likely(4, 0, 0), TheUsual.BAD);
        Check.due("likely(0, -1, 0)", x.likely(0, -1, 0), TheUsual.BAD);
        Check.due("likely(3, 3, 6): BAD first", x.likely(3, 3, 6), TheUsual.BAD);
        Check.due("likely(0, 0, NONE)", x.likely(0, 0, NONE), TheUsual.BAD);
        Check.due("likely leaves asked()", x.asked(), 0);
        TheUsual empty = new TheUsual();
        Check.finds("likely without regulars", empty, 0, empty.likely(NONE, NONE, 0), 4);
    }

    private static void takes() {
        TheUsual x = Check.shop("r00011 h00013 s00232");
        Check.fraction("takes, asked", x, x.takes(0, 0, NONE), 40, 1);
        Check.fraction("takes, 0 laid out", x, x.takes(0, 0, 0), 9, 1);
        Check.fraction("takes, 1 laid out", x, x.takes(0, 0, 1), (59 + 3 * 69 + 2 * 9) / 2, 3);
        TheUsual y = Check.shop("r00016 y00455");
        Check.fraction("takes, told as it is", y, y.takes(0, 0, 4), 6 * 59 + 5 * 9, 11);
        Check.fraction("likely, told as it is", y, y.likely(0, 0, 4), 5, 11);
        x.serve(1, 0);
        x.serve(1, 0);
        Check.fraction("takes, one known, asked", x, x.takes(0, 0, NONE), 35, 1);
        Check.fraction("takes, one known, 2 laid out", x, x.takes(NONE, 0, 2), (59 + 3 * 59 + 2 * 9) / 2, 3);
        Check.finds("takes: nobody looks so", x, 0, x.takes(0, 1, 0), 4);
        Check.due("takes(0, 4, 0)", x.takes(0, 4, 0), TheUsual.BAD);
        Check.due("takes(-2, 0, 0)", x.takes(-2, 0, 0), TheUsual.BAD);
        Check.due("takes(0, 1, 6): BAD first", x.takes(0, 1, 6), TheUsual.BAD);
        Check.due("takes(0, 0, -1)", x.takes(0, 0, -1), TheUsual.BAD);
        Check.due("takes leaves asked()", x.asked(), 0);
    }

    private static void quickest() {
        TheUsual x = Check.shop("r00011 r00121 r00231 s02001 s02112 y02111");
        Check.due("three unlike ones: asked", x.quickest(0, 0), NONE);
        Check.due("nobody is sour, if asked", x.asked(), 0);
        Check.due("silent ones: any thing, the least", x.quickest(0, 2), 0);
        Check.due("silent ones: two are sour", x.asked(), 2);
        Check.due("all: silent ones take any thing as quickly", x.quickest(NONE, NONE), 0);
        Check.due("all: how many are sour", x.asked(), 2);
        Check.finds("quickest: nobody looks so", x, 0, x.quickest(1, 1), 4);
        Check.due("refused: asked() as it was", x.asked(), 2);
        Check.due("quickest(4, 0)", x.quickest(4, 0), TheUsual.BAD);
        Check.due("quickest(0, -1)", x.quickest(0, -1), TheUsual.BAD);
    }

    private static void quickestOfAlikeOnes() {
        TheUsual x = Check.shop("r00001 r00111");
        Check.due("alike things: the least", x.quickest(0, 0), 0);
        x = Check.shop("r00501 r00111");
        Check.due("alike things: the least, not the first one's", x.quickest(0, 0), 1);
        // 4 who gain 31 by a thing laid out, 5 who lose 19, and 1 who loses 29: in all it is as if asked.
        x = Check.shop("r00004 r00122 r00233 h00341");
        Check.fraction("asked", x, x.takes(0, 0, NONE), 40, 1);
        Check.fraction("0 laid out", x, x.takes(0, 0, 0), 40, 1);
        Check.due("as quick as asked: asked", x.quickest(0, 0), NONE);
        x = Check.shop("h00001 h00111");
        Check.due("strangers: 39 laid out, 40 asked", x.quickest(0, 0), 0);
        for (int i = 0; i < 2; i++) {
            x.serve(0, 0);
            x.serve(1, 1);
        }
        Check.due("known: 34 laid out, 30 asked", x.quickest(0, 0), NONE);
        x = Check.shop("h00111 r00001");
        Check.fraction("0 laid out", x, x.takes(0, 0, 0), 39, 1);
        Check.fraction("1 laid out", x, x.takes(0, 0, 1), 34, 1);
        Check.due("quickest by mean", x.quickest(0, 0), 1);
    }
}
