/** The sentences of "Terms" that name a boundary case, in their order; what they refuse is in RefusedTest. */
public final class TermsTest {
    private static final int NONE = TheUsual.NONE;
    private static final String SIX = "r00011r00011r00011r00011r00011r00011";

    public static void main(String[] args) {
        lowestTerms();
        nothingByOne();
        setsByBits();
        sizesOfRows();
        sizesOfTexts();
        blanks();
        oneToSixItems();
        lettersThatAreNone();
        figuresThatAreNone();
        blanksWithinItems();
        endsTooEarly();
        blanksAlone();
        theFirstFault();
        kindsAndLetters();
        changersFromMorning3();
        fridays();
        shyOnesOnOddMornings();
        knownByTwo();
        secondsOfServings();
        sourOnceMore();
        sixtyTurns();
        secondsThroughAMorning();
        comingsOfQueues();
        noneEarlierThanTheOneAhead();
        fromWhenItComesOrTheOneAheadHasGone();
        notMoreKnownWithinAQueue();
        waitsOf60AndOf20();
        leavesAtOnce();
        Check.end();
    }

    /** "told by upper(), lower(), in lowest terms". */
    private static void lowestTerms() {
        TheUsual x = Check.shop("r00006 r00113 r00223");
        Check.fraction("6 of 12", x, x.likely(0, 0, 0), 1, 2);
        Check.fraction("3 of 12", x, x.likely(0, 0, 1), 1, 4);
        TheUsual y = Check.shop("r00009 r00119");
        Check.fraction("a whole number by 1", y, y.takes(0, 0, NONE), 40, 1);
        Check.fraction("2 times 729 of 5832", y, y.odds(3), 1, 4);
    }

    /** "the lower number above 0 (0 by 1)". */
    private static void nothingByOne() {
        TheUsual x = Check.shop("r00006 r00113 r00223");
        x.likely(0, 0, 0);
        Check.fraction("0 of 12", x, x.likely(0, 0, 5), 0, 1);
    }

    /** "Sets (of REGULARS, of THINGS) are told by bits." */
    private static void setsByBits() {
        TheUsual x = Check.shop("r00011 r00011 r00011 r00011 r00011 r10011");
        Check.due("the first", Check.shop("r00011").who(0, 0), 1);
        Check.due("the last", x.who(1, 0), 32);
        Check.due("all", x.who(NONE, NONE), 63);
        Check.due("none", x.who(3, 3), 0);
    }

    /** "ROWS 0 .. 5 are rows of 0 to 40 ints .. or missing (at first)". */
    private static void sizesOfRows() {
        TheUsual x = new TheUsual();
        for (int r = 0; r <= 5; r++) {
            Check.finds("at first row " + r, x, r, x.tear(r), 1);
            Check.due("row " + r + " of 0", x.row(r, 0), 0);
            Check.due("row " + r + " of 40", x.row(r, 40), 40);
            Check.due("its last place", x.lay(r, 39, r - 7), 1);
        }
        for (int r = 0; r <= 5; r++) {
            Check.due("its last place", Check.asked(x, x.at(r, 39)), r - 7);
        }
        Check.due("six rows", x.count(7), 6);
    }

    /** "TEXTS 0 .. 3 rows of 0 to 60 bytes, or missing (at first)". */
    private static void sizesOfTexts() {
        TheUsual x = new TheUsual();
        for (int t = 0; t <= 3; t++) {
            Check.finds("at first text " + t, x, t, x.fault(t), 1);
            Check.due("text " + t + " of 0", x.text(t, 0), 0);
            Check.due("text " + t + " of 60", x.text(t, 60), 60);
            Check.due("its last byte", x.put(t, 59, 65 + t), 1032);
        }
        for (int t = 0; t <= 3; t++) {
            Check.due("its last byte", x.put(t, 59, 0), 1065 + t);
        }
        Check.due("four texts", x.count(8), 4);
    }

    private static void faultIs(String signs, int place) {
        TheUsual x = new TheUsual();
        Check.text(x, 1, signs);
        Check.due("fault of '" + signs + "'", x.fault(1), place);
        Check.due("shop of '" + signs + "'", x.shop(1) > 0 ? NONE : x.fault(1), place);
    }

    /** "blanks (32) ahead, between, behind as many as wanted": none is as many as wanted, too. */
    private static void blanks() {
        faultIs("r00011", NONE);
        faultIs("r00011r00011", NONE);
        faultIs(" r00011 r00011 ", NONE);
        faultIs(" ".repeat(54) + "r00011", NONE);
        faultIs("r00011" + " ".repeat(54), NONE);
        faultIs("r00011" + " ".repeat(48) + "r00011", NONE);
        for (char sign : new char[] {0, 9, 10, 31, 33, 95, 160, 255}) {
            faultIs(sign + "r00011", 0);
            faultIs("r00011" + sign + "r00011", 6);
            faultIs("r00011" + sign, 6);
        }
        // 288 is cut to a blank.
        TheUsual x = Check.shop("r00011-");
        x.put(0, 6, 288);
        Check.due("a byte that is cut to a blank", x.fault(0), NONE);
    }

    /** "REGULARS 0, 1, .. (1 to 6; as they come)", "a seventh REGULAR: its place". */
    private static void oneToSixItems() {
        faultIs(SIX, NONE);
        faultIs(SIX + " ".repeat(24), NONE);
        faultIs(SIX + "r00011", 36);
        faultIs(SIX + "   r00011", 39);
        faultIs(SIX + "r", 36);
        faultIs(SIX + "  r0", 38);
        faultIs(SIX + " x", 37);
        TheUsual x = Check.shop("f00011 y00022 h00033 c00044 s00055 r00006");
        Check.due("six", x.count(0), 6);
        for (int p = 0; p < 6; p++) {
            Check.due("as they come", Check.asked(x, x.regular(p, 5)), p + 1);
            Check.due("as they come", Check.asked(x, x.regular(p, 0)), 5 - p);
        }
    }

    /** "A FAULT is the first place at which it can't go on so (a letter .. that is none such". */
    private static void lettersThatAreNone() {
        for (int sign = 0; sign < 256; sign++) {
            if ("rschyf ".indexOf(sign) < 0) {
                faultIs((char) sign + "00011", 0);
                faultIs("r00011 " + (char) sign + "00011", 7);
            }
        }
        for (char letter : "rschyf".toCharArray()) {
            faultIs(letter + "00011", NONE);
        }
    }

    /** The HAT, the STEP (0 .. 3), the USUAL, the OTHER (0 .. 5), how often it COMES (1 .. 9). */
    private static void figuresThatAreNone() {
        String[] figures = {"", "0123", "0123", "012345", "012345", "123456789"};
        for (int place = 1; place < 6; place++) {
            for (int sign = 0; sign < 256; sign++) {
                StringBuilder item = new StringBuilder("r00011");
                item.setCharAt(place, (char) sign);
                boolean fine = figures[place].indexOf(sign) >= 0;
                faultIs(item.toString(), fine ? NONE : place);
                faultIs("r00011  " + item, fine ? NONE : 8 + place);
            }
        }
    }

    /** "none within items". */
    private static void blanksWithinItems() {
        for (int place = 1; place < 6; place++) {
            faultIs(new StringBuilder("r00011").insert(place, ' ').toString(), place);
        }
        faultIs("r00011 ", NONE);
    }

    /** "the TEXT's size, if its end comes too early". */
    private static void endsTooEarly() {
        for (int size = 1; size < 6; size++) {
            faultIs("r00011".substring(0, size), size);
            faultIs(" r00011 " + "y33559".substring(0, size), 8 + size);
            faultIs(" ".repeat(60 - size) + "f33559".substring(0, size), 60);
        }
    }

    /** "or there are blanks alone". */
    private static void blanksAlone() {
        for (int size = 0; size <= 60; size++) {
            faultIs(" ".repeat(size), size);
        }
    }

    /** "the first place": of several faults. */
    private static void theFirstFault() {
        faultIs("x99990", 0);
        faultIs("r99990", 1);
        faultIs("r09990", 2);
        faultIs("r00990", 3);
        faultIs("r00090", 4);
        faultIs("r00010", 5);
        faultIs("r00010 x", 5);
        faultIs("r00011 q r0", 7);
    }

    /** "KINDS of REGULARS and letters", each with those that it is besides. */
    private static void kindsAndLetters() {
        TheUsual x = Check.shop("r00011 s00011 c00011 h00011 y00011 f00011");
        int[] silent = {0, 1, 0, 0, 1, 0};
        for (int p = 0; p < 6; p++) {
            Check.due("the kind of " + p, Check.asked(x, x.regular(p, 0)), p);
            x.serve(p, 5);
            Check.due("sour: " + p, Check.asked(x, x.regular(p, 7)), silent[p]);
        }
    }

    /** "a CHANGER (FRIDAY, too) its OTHER from MORNING 3 on". */
    private static void changersFromMorning3() {
        TheUsual x = Check.shop("c00011 f00011 r00011 s00011 h00011 y00011");
        for (int p = 0; p < 2; p++) {
            Check.due("morning 0", x.wants(p, 0), 0);
            Check.due("morning 2", x.wants(p, 2), 0);
            Check.due("morning 3", x.wants(p, 3), 1);
            Check.due("morning 5", x.wants(p, 5), 1);
        }
        for (int p = 2; p < 5; p++) {
            Check.due("a regular one, morning 2", x.wants(p, 2), 0);
            Check.due("a regular one, morning 3", x.wants(p, 3), 0);
            Check.due("a regular one, morning 999", x.wants(p, 999), 0);
        }
        Check.due("a changer, morning 4", x.wants(0, 4), 1);
        Check.due("a changer, morning 999", x.wants(0, 999), 1);
    }

    /** "a FRIDAY one, on MORNINGS that leave 4 divided by 5, what a CHANGER would not". */
    private static void fridays() {
        TheUsual x = Check.shop("f00231");
        for (int m = 0; m < 1000; m++) {
            boolean other = m >= 3 && m % 5 != 4;
            Check.due("a friday one on morning " + m, x.wants(0, m), other ? 3 : 2);
            if (m % 300 == 299) {
                x = Check.shop("f00231");
            }
        }
    }

    /** "a SHY one its OTHER on each odd MORNING". */
    private static void shyOnesOnOddMornings() {
        TheUsual x = Check.shop("y00231");
        for (int m : new int[] {0, 1, 2, 3, 4, 5, 998, 999}) {
            Check.due("a shy one on morning " + m, x.wants(0, m), m % 2 == 0 ? 2 : 3);
        }
    }

    /** "One is KNOWN, if it was SERVED 2 times at least." */
    private static void knownByTwo() {
        for (String signs : new String[] {"r00011", "s00011", "h00011"}) {
            TheUsual x = Check.shop(signs);
            int[] due = {40, 40, 30, 30};
            for (int times = 0; times < due.length; times++) {
                Check.due("known, served " + times, x.count(4), times >= 2 ? 1 : 0);
                Check.due("asked, served " + times, x.serve(0, NONE), due[times]);
                x.morning();
            }
        }
    }

    /** "40 SECONDS (30, if it is KNOWN) .. 9 .. 9, and ASKED, and 10 (of a HURRIED one 20) .. 9 SECONDS". */
    private static void secondsOfServings() {
        String[] signs = {"r00011", "s00011", "c00011", "h00011", "y00011", "f00011"};
        int[] wrong = {59, 9, 59, 69, 9, 59};
        for (int kind = 0; kind < 6; kind++) {
            TheUsual x = Check.shop(signs[kind]);
            Check.due("wrong, kind " + kind, x.serve(0, 1), wrong[kind]);
            Check.due("wrong once more, kind " + kind, x.serve(0, 5), wrong[kind]);
            Check.due("known, wrong, kind " + kind, x.serve(0, 1), wrong[kind] == 9 ? 9 : wrong[kind] - 10);
            Check.due("known, right, kind " + kind, x.serve(0, 0), 9);
            Check.due("known, asked, kind " + kind, x.serve(0, NONE), 30);
        }
    }

    /** "it is SOUR (once more)"; neither by what it wants nor if asked. */
    private static void sourOnceMore() {
        TheUsual x = Check.shop("s00011 y00011");
        for (int p = 0; p < 2; p++) {
            for (int times = 1; times <= 3; times++) {
                x.serve(p, 0);
                x.serve(p, NONE);
                x.serve(p, 1);
                Check.due("sour", Check.asked(x, x.regular(p, 7)), times);
            }
        }
    }

    /** "SERVINGS, MORNINGS that begin are TURNS 0, 1, .. (60 at most)." */
    private static void sixtyTurns() {
        TheUsual x = Check.shop("s00011");
        for (int i = 0; i < 40; i += 2) {
            Check.due("a serving", x.serve(0, 0), 9);
            Check.due("a morning", x.morning(), i / 2 + 1);
        }
        Check.due("lots of 20", x.lots(20, 4), 20 * 9);
        Check.due("sixty turns", x.count(3), 60);
        Check.due("a turn more", x.serve(0, 0), TheUsual.FULL);
        Check.due("undo(59)", x.undo(59), 1);
        Check.due("there is one turn left", x.serve(0, 0), 9);
        Check.due("and no more", x.morning(), TheUsual.FULL);
        x.undo(59);
        Check.due("one turn left, a morning", x.morning(), 21);
        Check.due("and no more", x.lots(1, 1), TheUsual.FULL);
        x.undo(59);
        Check.due("one turn left, by lots", x.lots(1, 1), 9);
        Check.due("and no more", x.serve(0, 0), TheUsual.FULL);
    }

    /** "SECONDS go on through a MORNING, 0 at its beginning." */
    private static void secondsThroughAMorning() {
        TheUsual x = Check.shop("s00011 h00011");
        Check.due("at first", x.count(2), 0);
        x.serve(0, 0);
        x.serve(1, 5);
        Check.due("9 and 69", x.count(2), 78);
        x.morning();
        Check.due("a morning", x.count(2), 0);
        x.serve(0, NONE);
        Check.due("40", x.count(2), 40);
        x.morning();
        x.morning();
        Check.due("two mornings", x.count(2), 0);
    }

    private static int queue(TheUsual x, int... pairs) {
        Check.row(x, 0, pairs);
        return x.queue(0);
    }

    /** "the SECOND at which it comes (0 .. 999". */
    private static void comingsOfQueues() {
        TheUsual x = Check.shop("r00011");
        Check.due("0", queue(x, 0, 0), 0);
        Check.due("0: gone", x.asked(), 40);
        Check.due("999", queue(x, 0, 999), 0);
        Check.due("999: gone", x.asked(), 1039);
        Check.finds("-1", x, 0, queue(x, 0, -1), 3);
        Check.finds("1000", x, 1, queue(x, 0, 1000), 3);
        Check.finds("least", x, 2, queue(x, 0, Integer.MIN_VALUE), 3);
        Check.finds("most", x, 3, queue(x, 0, Integer.MAX_VALUE), 3);
    }

    /** "none earlier than the one ahead". */
    private static void noneEarlierThanTheOneAhead() {
        TheUsual x = Check.shop("r00011 r00011");
        Check.due("at once", queue(x, 0, 500, 1, 500), 0);
        Check.finds("a second earlier", x, 0, queue(x, 0, 500, 1, 499), 3);
        Check.finds("earlier, but not than the first", x, 1, queue(x, 0, 500, 1, 600, 0, 599), 3);
        Check.due("at the last second", queue(x, 0, 999, 1, 999), 0);
    }

    /** "one behind the other is SERVED, from when it comes, or the one ahead has gone, ASKED". */
    private static void fromWhenItComesOrTheOneAheadHasGone() {
        TheUsual x = Check.shop("r00011 s00011");
        int[][] goneBySecond = {{0, 80}, {39, 80}, {40, 80}, {41, 81}, {300, 340}};
        for (int[] pair : goneBySecond) {
            queue(x, 0, 0, 1, pair[0]);
            Check.due("one who comes at " + pair[0], x.asked(), pair[1]);
        }
    }

    /** "(not more KNOWN within it than now)". */
    private static void notMoreKnownWithinAQueue() {
        TheUsual x = Check.shop("r00011");
        queue(x, 0, 0, 0, 100, 0, 200, 0, 300);
        Check.due("a stranger all the time", x.asked(), 340);
        x.serve(0, 0);
        queue(x, 0, 0, 0, 100, 0, 200);
        Check.due("served once ahead of it", x.asked(), 240);
        x.serve(0, 0);
        queue(x, 0, 0, 0, 100, 0, 200);
        Check.due("known", x.asked(), 230);
    }

    /** "One that has waited more than 60 SECONDS (a HURRIED one more than 20)". */
    private static void waitsOf60AndOf20() {
        String[] signs = {"r00011", "s00011", "c00011", "h00011", "y00011", "f00011"};
        for (int kind = 0; kind < 6; kind++) {
            TheUsual x = Check.shop("r00011 " + signs[kind]);
            int most = kind == 3 ? 20 : 60;
            // The two ahead have gone at 180.
            Check.due("waits 60 or 20, kind " + kind, queue(x, 0, 100, 0, 100, 1, 180 - most), 0);
            Check.due("waits a second more, kind " + kind, queue(x, 0, 100, 0, 100, 1, 179 - most), 1);
            Check.due("does not wait, kind " + kind, queue(x, 0, 100, 1, 140), 0);
        }
    }

    /** "LEAVES at once, unserved": the next one's turn comes in that second. */
    private static void leavesAtOnce() {
        TheUsual x = Check.shop("r00011 h00011");
        Check.due("the hurried one leaves", queue(x, 0, 0, 1, 10, 0, 10), 1);
        Check.due("it takes no second", x.asked(), 80);
        Check.due("it was not served", x.by(0, 9999), 2);
        Check.due("the last one leaves", queue(x, 0, 0, 1, 10), 1);
        Check.due("it goes when its turn comes", x.asked(), 40);
    }
}
