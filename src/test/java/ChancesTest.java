/** Promises 34 to 36: sour, odds, lots. */
public final class ChancesTest {
    public static void main(String[] args) {
        sour();
        odds();
        lots();
        lotsLearnOnTheWay();
        lotsLayOutWhatIsQuickest();
        lotsRefused();
        Check.end();
    }

    private static void sourIs(TheUsual x, int thing, int set) {
        Check.due("sour(" + thing + ")", x.sour(thing), Integer.bitCount(set));
        Check.due("sour(" + thing + "): who", x.asked(), set);
    }

    private static void sour() {
        TheUsual x = Check.shop("s00011 y00011 r00011 s00121 h00011 y00231");
        sourIs(x, 0, 8 + 32);
        sourIs(x, 1, 1 + 2 + 32);
        sourIs(x, 2, 1 + 2 + 8);
        sourIs(x, 5, 1 + 2 + 8 + 32);
        x.morning();
        sourIs(x, 1, 1 + 32);
        Check.due("sour is aside", x.count(5), 0);
        Check.due("sour(6)", x.sour(6), TheUsual.BAD);
        Check.due("sour(-1)", x.sour(-1), TheUsual.BAD);
        Check.due("sour(NONE)", x.sour(TheUsual.NONE), TheUsual.BAD);
        Check.due("refused: asked() as it was", x.asked(), 33);
        sourIs(new TheUsual(), 0, 0);
    }

    private static void odds() {
        TheUsual x = Check.shop("r00012 y00211 h01013");
        Check.fraction("odds(1)", x, x.odds(1), 1, 1);
        Check.fraction("odds(2)", x, x.odds(2), 13, 18);
        Check.due("odds(0)", x.odds(0), TheUsual.BAD);
        Check.due("odds(4)", x.odds(4), TheUsual.BAD);
        Check.due("odds without regulars", new TheUsual().odds(1), TheUsual.STATE);
        Check.due("odds(4) without regulars: BAD first", new TheUsual().odds(4), TheUsual.BAD);
    }

    private static void lots() {
        TheUsual x = Check.shop("r00011 r10011 r20011");
        // From 1: 48271, 182605794, 1291394886, 1914720637, which leave 1, 0, 0, 1 of three.
        Check.due("lots(4, 1)", x.lots(4, 1), 36);
        Check.due("lots(4, 1): turns", x.count(3), 4);
        Check.due("lots(4, 1): seconds", x.count(2), 36);
        long lot = 1;
        int[] served = new int[3];
        for (int i = 0; i < 4; i++) {
            lot = Math.floorMod(lot * 48271L, 2147483647L);
            served[(int) (lot % 3)]++;
        }
        for (int p = 0; p < 3; p++) {
            Check.due("lots(4, 1): how often served", Check.asked(x, x.regular(p, 6)), served[p]);
        }
        x.at(0, 0);
        int asked = x.asked();
        x.lots(3, 2147483646);
        Check.due("lots leaves asked()", x.asked(), asked);
        Check.due("lots, the greatest seed: turns", x.count(3), 7);
        Check.due("undo a part of lots", x.undo(5), 2);
        Check.due("undo a part of lots: seconds", x.count(2), 45);
    }

    private static void lotsLearnOnTheWay() {
        // Two hurried ones who look alike: 0 is laid out for strangers, but known ones are asked.
        TheUsual x = Check.shop("h00001 h00111");
        TheUsual y = Check.shop("h00001 h00111");
        long lot = 77;
        int sum = 0;
        for (int i = 0; i < 20; i++) {
            lot = lot * 48271L % 2147483647L;
            int thing = y.quickest(0, 0);
            sum += y.serve((int) (lot % 2), thing);
        }
        Check.due("lots(20, 77)", x.lots(20, 77), sum);
        Check.due("lots(20, 77): all is as if served one by one", x.digest(), y.digest());
        Check.due("known ones are asked", y.quickest(0, 0), TheUsual.NONE);
        Check.due("both are known", y.count(4), 2);
    }

    private static void lotsLayOutWhatIsQuickest() {
        TheUsual x = Check.shop("s00011 r00119 s10231 y10341");
        Check.due("lots(20, 5)", x.lots(20, 5), 20 * 9);
        // 1 for the first two, who look alike; 0, the least of alike things, for the silent ones of hat 1.
        int sours = 0;
        for (int p : new int[] {0, 2, 3}) {
            sours += Check.asked(x, x.regular(p, 6));
        }
        Check.due("what was laid out made three of them sour", x.count(5), sours);
        x = Check.shop("c00011");
        for (int m = 1; m <= 3; m++) {
            x.morning();
        }
        Check.due("by what it wants this morning", x.lots(3, 9), 27);
    }

    private static void lotsRefused() {
        TheUsual x = new TheUsual();
        Check.due("lots without regulars", x.lots(1, 1), TheUsual.STATE);
        x = Check.shop("r00011");
        Check.due("lots(0, 1)", x.lots(0, 1), TheUsual.BAD);
        Check.due("lots(21, 1)", x.lots(21, 1), TheUsual.BAD);
        Check.due("lots(1, 0)", x.lots(1, 0), TheUsual.BAD);
        Check.due("lots(1, -1)", x.lots(1, -1), TheUsual.BAD);
        Check.due("lots(1, max)", x.lots(1, Integer.MAX_VALUE), TheUsual.BAD);
        x.lots(20, 1);
        x.lots(20, 1);
        x.morning();
        long digest = x.digest();
        Check.due("lots(20, 1), 41 turns", x.lots(20, 1), TheUsual.FULL);
        Check.due("refused changes nothing", x.digest(), digest);
        Check.due("lots(19, 1), 41 turns", x.lots(19, 1), 19 * 9);
        Check.due("lots(1, 1), 60 turns", x.lots(1, 1), TheUsual.FULL);
        Check.due("lots(21, 1), 60 turns: BAD first", x.lots(21, 1), TheUsual.BAD);
    }
}
