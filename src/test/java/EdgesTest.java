import java.math.BigInteger;

/**
 * The sentences of promises 2 to 43 that name a boundary case, in their order, from the inside: the least and the
 * greatest numbers that are taken, the empty and the full. What lies just outside is refused: RefusedTest.
 */
public final class EdgesTest {
    private static final int NONE = TheUsual.NONE, LOW = Integer.MIN_VALUE, HIGH = Integer.MAX_VALUE;
    private static final String KINDS = "r00011 s00011 c00011 h00011 y00011 f00011";

    public static void main(String[] args) {
        rowsAnew();
        placesOfRows();
        tornRowsCanBeMadeAgain();
        copiesAsIfTakenAhead();
        copiesOfAllAndOfNone();
        meansAreCut();
        textsAnew();
        bytesAreCut();
        shopsAnew();
        factsOfRegulars();
        marksOfSilentOnes();
        marksOfChangersIn1To9();
        marksOfHurriedOnes();
        marksOfShyOnes();
        marksOfFridayOnes();
        othersWithoutTurns();
        mornings();
        undoneTurns();
        keptPlaces();
        keptAsItIs();
        looks();
        partings();
        wantsOnTheLastMorning();
        chancesOfOneAndOfAll();
        takenSeconds();
        quickestOfAlikes();
        queuesOfNoneAndOfEight();
        servedByASecond();
        ordersOfOneAndOfSix();
        learningNobodyAndAll();
        emptyAndFullBooks();
        kindsOfOneThing();
        liesOfTheFirst();
        apartOnTheFirstAndTheLast();
        sourOfNobodyAndOfAll();
        oddsOf1To3();
        lotsOf1And20();
        lotsByTheLeastAndTheGreatestSeed();
        toldBefore();
        counts();
        findings();
        digests();
        theLastOf512Calls();
        Check.end();
    }

    /** 2: "A ROW is there with n ints 0", whatever it was; 37: asked() stays. */
    private static void rowsAnew() {
        TheUsual x = new TheUsual();
        Check.row(x, 0, 5, 6, 7);
        Check.due("row(0, 3) anew", x.row(0, 3), 3);
        Check.rowIs("row(0, 3) anew", x, 0, 0, 0, 0);
        Check.row(x, 0, 5, 6, 7);
        x.row(0, 0);
        Check.rowIs("row(0, 0) anew", x, 0);
        x.row(0, 3);
        Check.rowIs("grown again", x, 0, 0, 0, 0);
        Check.row(x, 0, 5, 6, 7);
        x.tear(0);
        x.row(0, 3);
        Check.rowIs("torn and made again", x, 0, 0, 0, 0);
    }

    /** 3, 4: the first and the last place, the least and the greatest int. */
    private static void placesOfRows() {
        TheUsual x = new TheUsual();
        x.row(5, 40);
        int[] places = {0, 39};
        int[] values = {LOW, HIGH};
        for (int i = 0; i < 2; i++) {
            Check.due("lay", Check.asked(x, x.lay(5, places[i], values[i])), 0);
            Check.due("at", Check.asked(x, x.at(5, places[i])), values[i]);
            Check.due("lay once more", Check.asked(x, x.lay(5, places[i], -1)), values[i]);
        }
        Check.due("another place", Check.asked(x, x.at(5, 38)), 0);
    }

    /** 5: a torn ROW is missing for every call that wants one, and can be there again. */
    private static void tornRowsCanBeMadeAgain() {
        TheUsual x = Check.shop(KINDS);
        x.row(0, 2);
        x.row(1, 2);
        Check.due("tear(0)", x.tear(0), 1);
        Check.finds("at", x, 0, x.at(0, 0), 1);
        Check.finds("lay", x, 1, x.lay(0, 0, 0), 1);
        Check.finds("mean", x, 2, x.mean(0), 1);
        Check.finds("copy from it", x, 3, x.copy(0, 0, 1, 0, 0), 1);
        Check.finds("copy to it", x, 4, x.copy(1, 0, 0, 0, 0), 1);
        Check.finds("queue", x, 5, x.queue(0), 1);
        Check.finds("by", x, 6, x.by(0, 0), 1);
        Check.finds("fits", x, 7, x.fits(0), 1);
        Check.finds("kinds", x, 8, x.kinds(0, 0, 0), 1);
        Check.finds("lies", x, 9, x.lies(0), 1);
        Check.finds("tear", x, 10, x.tear(0), 1);
        Check.due("order makes it anew", x.order(0), 600);
        Check.rowIs("order makes it anew", x, 0, 0, 1, 2, 3, 4, 5);
        Check.due("the other row stays", x.mean(1), 1);
    }

    /** 6: "(perhaps itself) .. as if taken ahead". */
    private static void copiesAsIfTakenAhead() {
        TheUsual x = new TheUsual();
        for (int i = 0; i <= 3; i++) {
            for (int j = 0; j <= 3; j++) {
                Check.row(x, 0, 1, 2, 3, 4, 5, 6);
                int[] due = {1, 2, 3, 4, 5, 6};
                for (int k = 0; k < 3; k++) {
                    due[j + k] = i + k + 1;
                }
                Check.due("copy(0, " + i + ", 0, " + j + ", 3)", x.copy(0, i, 0, j, 3), 1);
                Check.rowIs("copy(0, " + i + ", 0, " + j + ", 3)", x, 0, due);
            }
            x = new TheUsual();
        }
    }

    /** 6: "BEYOND: not so many there": all that are there, and none at the end, are not beyond. */
    private static void copiesOfAllAndOfNone() {
        TheUsual x = new TheUsual();
        x.row(0, 40);
        x.row(1, 40);
        x.lay(0, 0, 7);
        x.lay(0, 39, 8);
        Check.due("copy of 40", x.copy(0, 0, 1, 0, 40), 1);
        Check.due("the first", Check.asked(x, x.at(1, 0)), 7);
        Check.due("the last", Check.asked(x, x.at(1, 39)), 8);
        Check.due("copy of the last", x.copy(0, 39, 1, 1, 1), 1);
        Check.due("copied", Check.asked(x, x.at(1, 1)), 8);
        Check.due("copy to the last", x.copy(0, 0, 1, 39, 1), 1);
        Check.due("copied", Check.asked(x, x.at(1, 39)), 7);
        long digest = x.digest();
        Check.due("copy of none at the end", x.copy(0, 40, 1, 40, 0), 1);
        Check.due("copy of none to itself", x.copy(1, 0, 1, 40, 0), 1);
        Check.due("nothing was changed", x.digest(), digest);
        x.row(2, 0);
        Check.due("copy of none of none", x.copy(2, 0, 2, 0, 0), 1);
    }

    /** 7: "The mean of a ROW's ints, cut", also if the sum goes beyond an int. */
    private static void meansAreCut() {
        int[][] rows = {{0}, {HIGH}, {LOW}, {1, 2}, {-1, -2}, {-1, 0}, {HIGH, HIGH, HIGH}, {LOW, LOW, LOW},
            {HIGH, LOW}, {LOW, HIGH, HIGH}, {2, 2, 1}, {-2, -2, -1}};
        int[] means = {0, HIGH, LOW, 1, -1, 0, HIGH, LOW, 0, 715827882, 1, -1};
        for (int i = 0; i < rows.length; i++) {
            TheUsual x = new TheUsual();
            Check.row(x, 0, rows[i]);
            Check.due("mean of row " + i, Check.asked(x, x.mean(0)), means[i]);
        }
        TheUsual x = new TheUsual();
        x.row(0, 40);
        for (int i = 0; i < 40; i++) {
            x.lay(0, i, LOW);
        }
        Check.due("mean of 40", Check.asked(x, x.mean(0)), LOW);
    }

    /** 8: "A TEXT is there with n blanks", whatever it was. */
    private static void textsAnew() {
        TheUsual x = new TheUsual();
        Check.text(x, 2, "r00011");
        Check.due("text(2, 6) anew", x.text(2, 6), 6);
        Check.due("blanks alone", x.fault(2), 6);
        Check.text(x, 2, "r00011");
        x.text(2, 0);
        Check.due("empty", x.fault(2), 0);
        x.text(2, 6);
        Check.due("blanks alone", x.fault(2), 6);
        for (int i = 0; i < 6; i++) {
            Check.due("a blank", x.put(2, i, 0), 1032);
        }
    }

    /** 9: "Byte i of a TEXT is v, cut to a byte: what it was, and 1000 more." */
    private static void bytesAreCut() {
        TheUsual x = new TheUsual();
        x.text(0, 1);
        int[] values = {0, 127, 128, 255, 256, 383, 384, -1, -128, -129, LOW, HIGH, 65536 + 65};
        int[] cut = {0, 127, -128, -1, 0, 127, -128, -1, -128, 127, 0, -1, 65};
        int was = 32;
        for (int i = 0; i < values.length; i++) {
            Check.due("put " + values[i], x.put(0, 0, values[i]), 1000 + was);
            was = cut[i];
        }
        TheUsual y = Check.shop("r00011");
        y.put(0, 0, 115 - 256);
        Check.due("a letter that was cut", y.shop(0), 1);
        Check.due("its kind", Check.asked(y, y.regular(0, 0)), 1);
    }

    /** 11: "(anew: MORNING 0, no TURNS; kept SHOPS go)", even by the same text. */
    private static void shopsAnew() {
        TheUsual x = Check.shop("c00011 s00011");
        x.other(0, 5);
        x.morning();
        x.serve(1, 3);
        for (int k = 0; k < 3; k++) {
            x.keep(k);
        }
        Check.due("the same text", x.shop(0), 2);
        Check.due("all is as at first", x.digest(), Check.shop("c00011 s00011").digest());
        for (int k = 0; k < 3; k++) {
            Check.finds("on(" + k + ")", x, k, x.on(k), 1);
        }
        Check.due("its other is the text's", x.wants(0, 3), 1);
        Check.text(x, 0, "r0001");
        x.keep(1);
        Check.due("a fault", x.shop(0), TheUsual.STATE);
        Check.due("a shop that is refused lets kept ones be", x.on(1), 0);
        Check.text(x, 0, "      ");
        Check.due("the shop does not hang on its text", Check.asked(x, x.regular(0, 0)), 2);
    }

    /** 12: "0 the KIND .. 8 what it WANTS this MORNING", at their least and greatest. */
    private static void factsOfRegulars() {
        TheUsual x = Check.shop("r00001 f33559");
        int[][] facts = {{0, 0, 0, 0, 0, 1, 0, 0, 0}, {5, 3, 3, 5, 5, 9, 0, 0, 5}};
        for (int p = 0; p < 2; p++) {
            for (int what = 0; what <= 8; what++) {
                Check.due("regular(" + p + ", " + what + ")", Check.asked(x, x.regular(p, what)), facts[p][what]);
            }
        }
        TheUsual y = Check.shop("y00231");
        for (int i = 0; i < 60; i++) {
            y.serve(0, 3);
        }
        Check.due("served 60 times", Check.asked(y, y.regular(0, 6)), 60);
        Check.due("sour 60 times", Check.asked(y, y.regular(0, 7)), 60);
    }

    /** 13: "how many THINGS (0 .. 5) would make it SOUR, LAID out this MORNING". */
    private static void marksOfSilentOnes() {
        TheUsual x = Check.shop("s00011 y00551");
        for (int m = 0; m < 3; m++) {
            Check.due("a silent one", x.mark(0, 1), 5);
            Check.due("a shy one", x.mark(1, 1), 5);
            x.morning();
        }
    }

    /** 13: "in how many MORNINGS from now on it first WANTS another THING than now (1 .. 9; NONE: not in 9)". */
    private static void marksOfChangersIn1To9() {
        for (int m = 0; m <= 60; m++) {
            TheUsual x = onMorning("c00011 f00011 c00111 f00111", m);
            Check.due("a changer on morning " + m, x.mark(0, 2), m < 3 ? 3 - m : NONE);
            int friday = 4 - m % 5;
            int fromThen = friday == 0 ? 1 : friday;
            Check.due("a friday one on morning " + m, x.mark(1, 2), m < 3 ? 3 - m : fromThen);
            Check.due("a changer of one thing on morning " + m, x.mark(2, 2), NONE);
            Check.due("a friday one of one thing on morning " + m, x.mark(3, 2), NONE);
        }
    }

    private static TheUsual onMorning(String signs, int m) {
        TheUsual x = Check.shop(signs);
        for (int i = 1; i <= m; i++) {
            Check.due("morning", x.morning(), i);
        }
        return x;
    }

    /** 13: "how many SECONDS it takes, if a wrong THING is LAID out now": a stranger and a known one. */
    private static void marksOfHurriedOnes() {
        TheUsual x = Check.shop("h00011");
        int[] marks = {69, 69, 59, 59};
        for (int mark : marks) {
            Check.due("mark", x.mark(0, 3), mark);
            Check.due("it takes as many", x.serve(0, 5), mark);
        }
    }

    /** 13: "a SHY one how many others look like it": none, and all others; by HAT and STEP. */
    private static void marksOfShyOnes() {
        Check.due("alone", Check.shop("y00011").mark(0, 4), 0);
        Check.due("by one sign each", Check.shop("y12011 r10011 r02011").mark(0, 4), 0);
        Check.due("all others", Check.shop("r33011 s33011 c33011 h33011 y33011 f33011").mark(4, 4), 5);
    }

    /** 13: "a FRIDAY one how many of MORNINGS 0 to 9 it WANTS its OTHER", whichever morning it is. */
    private static void marksOfFridayOnes() {
        TheUsual x = Check.shop("f00011");
        for (int m = 0; m < 12; m++) {
            Check.due("on morning " + m, x.mark(0, 5), 5);
            x.morning();
        }
        Check.due("its other is its usual", Check.shop("f00221").mark(0, 5), 10);
    }

    /** 14: "STATE: there are TURNS": not without, nor when they are undone, nor gone on from a shop without. */
    private static void othersWithoutTurns() {
        TheUsual x = Check.shop("c00011 r00231");
        x.keep(0);
        Check.due("the least thing", x.other(0, 0), 1);
        Check.due("the greatest thing", x.other(0, 5), 0);
        Check.due("the same thing", x.other(0, 5), 5);
        Check.due("the last one", x.other(1, 1), 3);
        x.serve(0, 0);
        Check.due("a serving", x.other(0, 1), TheUsual.STATE);
        x.undo(0);
        Check.due("undone", x.other(0, 1), 5);
        x.morning();
        Check.due("a morning", x.other(0, 2), TheUsual.STATE);
        x.on(0);
        Check.due("gone on from a shop without", x.other(0, 2), 1);
    }

    /** 16: "A MORNING begins: its number." */
    private static void mornings() {
        TheUsual x = Check.shop("r00011");
        Check.due("the first is there already", x.count(1), 0);
        for (int m = 1; m <= 60; m++) {
            Check.due("morning", x.morning(), m);
        }
        Check.due("a turn more", x.morning(), TheUsual.FULL);
        Check.due("the morning stays", x.count(1), 60);
    }

    /** 17: "TURNS from number n on are undone: how many": all, the last, none, none of none. */
    private static void undoneTurns() {
        TheUsual x = Check.shop("s00011");
        long first = x.digest();
        Check.due("none of none", x.undo(0), 0);
        for (int i = 0; i < 59; i++) {
            x.serve(0, i % 6);
        }
        long ahead = x.digest();
        x.morning();
        long last = x.digest();
        Check.due("none of 60", x.undo(60), 0);
        Check.due("nothing is changed", x.digest(), last);
        Check.due("the last of 60", x.undo(59), 1);
        Check.due("as it was", x.digest(), ahead);
        Check.due("all of 59", x.undo(0), 59);
        Check.due("as at first", x.digest(), first);
        Check.due("none of none", new TheUsual().undo(0), 0);
        Check.due("undone turns are gone", x.undo(1), TheUsual.BAD);
    }

    /** 18, 19: "a place (0 .. 2)". */
    private static void keptPlaces() {
        TheUsual x = Check.shop("s00011");
        for (int k = 0; k <= 2; k++) {
            Check.finds("on(" + k + ") at first", x, k, x.on(k), 1);
            Check.due("keep(" + k + ")", x.keep(k), k);
            Check.due("kept", x.count(9), k + 1);
            x.serve(0, 5);
        }
        for (int k = 2; k >= 0; k--) {
            Check.due("on(" + k + ")", x.on(k), k);
            Check.due("its sours", x.count(5), k);
        }
        Check.due("three are kept still", x.count(9), 3);
    }

    /** 18, 19: "as it is, OTHERS, TURNS": 60 of them, kept over another, undone here, not there. */
    private static void keptAsItIs() {
        TheUsual x = Check.shop("s00011 h00231");
        x.keep(1);
        x.other(0, 4);
        x.other(1, 5);
        for (int i = 0; i < 60; i++) {
            x.serve(i % 2, i % 7 == 6 ? NONE : i % 7);
        }
        Check.due("over another one", x.keep(1), 60);
        Check.due("one is kept", x.count(9), 1);
        long digest = x.digest();
        x.undo(0);
        x.other(0, 0);
        x.other(1, 0);
        x.morning();
        Check.due("on(1)", x.on(1), 60);
        Check.due("as it was kept", x.digest(), digest);
        Check.due("full, too", x.serve(0, 0), TheUsual.FULL);
        Check.due("undone by turns", x.undo(59), 1);
        Check.due("on(1) once more", x.on(1), 60);
        Check.due("as it was kept", x.digest(), digest);
    }

    /** 20: "by HAT and STEP (each 0 .. 3, or NONE: it is not seen)". */
    private static void looks() {
        TheUsual x = Check.shop("r00011 r33011 r03011 r30011");
        Check.due("who(0, 0)", x.who(0, 0), 1);
        Check.due("who(3, 3)", x.who(3, 3), 2);
        Check.due("who(0, NONE)", x.who(0, NONE), 1 + 4);
        Check.due("who(NONE, 3)", x.who(NONE, 3), 2 + 4);
        Check.due("who(NONE, NONE)", x.who(NONE, NONE), 15);
        Check.due("nobody", x.who(1, NONE), 0);
        Check.due("without regulars", new TheUsual().who(0, 0), 0);
    }

    /** 21: "0 none, 1 the HAT alone, 2 the STEP alone, 3 either", whichever is told first. */
    private static void partings() {
        TheUsual x = Check.shop("r00011 f00551 r30011 r03011 r33011 s00011");
        int[] due = {0, 0, 1, 2, 3, 0};
        for (int q = 1; q < 6; q++) {
            Check.due("parts(0, " + q + ")", x.parts(0, q), due[q]);
            Check.due("parts(" + q + ", 0)", x.parts(q, 0), due[q]);
        }
    }

    /** 22: "on a MORNING (0 .. 999)". */
    private static void wantsOnTheLastMorning() {
        TheUsual x = Check.shop(KINDS);
        int[] first = {0, 0, 0, 0, 0, 0};
        int[] last = {0, 0, 1, 0, 1, 0};
        for (int p = 0; p < 6; p++) {
            Check.due("wants(" + p + ", 0)", x.wants(p, 0), first[p]);
            Check.due("wants(" + p + ", 999)", x.wants(p, 999), last[p]);
        }
        x.morning();
        Check.due("whichever morning it is", x.wants(4, 0), 0);
    }

    /** 23: of one, of all, of nobody; each by how often it comes. */
    private static void chancesOfOneAndOfAll() {
        TheUsual x = Check.shop("r00009 r01551 r10115");
        Check.fraction("one, the least thing", x, x.likely(0, 0, 0), 1, 1);
        Check.fraction("one, the greatest thing", x, x.likely(0, 1, 5), 1, 1);
        Check.fraction("all", x, x.likely(NONE, NONE, 0), 3, 5);
        Check.fraction("nobody", x, x.likely(NONE, NONE, 4), 0, 1);
        Check.fraction("by its hat", x, x.likely(0, NONE, 5), 1, 10);
        Check.fraction("by its step", x, x.likely(NONE, 0, 1), 5, 14);
        TheUsual y = Check.shop("r00009 r00009 r00009 r00009 r00009 r00119");
        Check.fraction("all come most often", y, y.likely(0, 0, 0), 5, 6);
    }

    /** 24: "The mean of SECONDS that one who looks so takes now, a THING LAID out (NONE: ASKED)". */
    private static void takenSeconds() {
        TheUsual x = Check.shop("h00009 h00009 h00009 h00009 h00009 h00111");
        Check.fraction("the greatest thing", x, x.takes(0, 0, 5), 69, 1);
        Check.fraction("the least thing", x, x.takes(0, 0, 0), (45 * 9 + 69) / 2, 23);
        Check.fraction("asked", x, x.takes(0, 0, NONE), 40, 1);
        x.serve(5, 0);
        Check.fraction("served once", x, x.takes(0, 0, NONE), 40, 1);
        x.serve(5, 0);
        Check.fraction("known", x, x.takes(0, 0, NONE), (45 * 40 + 30) / 2, 23);
        TheUsual y = Check.shop("s00011");
        Check.fraction("a silent one takes any thing", y, y.takes(0, 0, 5), 9, 1);
    }

    /** 25: "of alike ones that first, then the least THING", "how many would be SOUR by it by asked()". */
    private static void quickestOfAlikes() {
        TheUsual x = Check.shop("s00551 y00441");
        Check.due("silent ones: all things are alike", x.quickest(0, 0), 0);
        Check.due("all would be sour", x.asked(), 2);
        x = Check.shop("s00011 y00001 s01221");
        Check.due("the least thing", x.quickest(0, 0), 0);
        Check.due("nobody would be sour", x.asked(), 0);
        Check.due("one of another step is not asked for", x.quickest(0, NONE), 0);
        Check.due("but it is by its hat", x.asked(), 1);
        x = Check.shop("r00551");
        Check.due("the greatest thing", x.quickest(0, 0), 5);
        // 4 times 31 gained, 5 times 19 and once 29 lost: 0 laid out takes as long as asking.
        x = Check.shop("r00004 r00122 r00233 h00341 s01001");
        Check.due("as quick as asked: asked", x.quickest(0, 0), NONE);
        Check.due("nobody would be sour, if asked", x.asked(), 0);
    }

    /** 26: "(8 pairs at most) .. the SECOND at which the last one has gone by asked() (0 without any)". */
    private static void queuesOfNoneAndOfEight() {
        TheUsual x = Check.shop("r00011 r00011");
        x.learn(0);
        x.row(0, 0);
        Check.due("none", x.queue(0), 0);
        Check.due("none: gone", x.asked(), 0);
        Check.row(x, 0, 0, 0, 1, 100, 0, 200, 1, 300, 0, 400, 1, 500, 0, 600, 1, 999);
        Check.due("eight", x.queue(0), 0);
        Check.due("eight: gone", x.asked(), 1039);
        x.row(0, 16);
        Check.due("eight at once", x.queue(0), 6);
        Check.due("eight at once: gone", x.asked(), 80);
        x.row(0, 17);
        Check.finds("not by pairs", x, 0, x.queue(0), 5);
        x.row(0, 18);
        Check.finds("nine", x, 1, x.queue(0), 5);
        x.row(0, 40);
        Check.finds("twenty", x, 2, x.queue(0), 5);
        Check.row(x, 0, 0, 0, 1, 0);
        x.serve(0, 1);
        x.morning();
        x.serve(0, 1);
        x.queue(0);
        Check.due("aside of the morning's seconds", x.asked(), 70);
    }

    /** 27: "How many of a QUEUE are SERVED to the end by a SECOND (0 .. 9999)". */
    private static void servedByASecond() {
        TheUsual x = Check.shop("r00011 h00011");
        Check.row(x, 0, 0, 0, 1, 20, 1, 79, 0, 999);
        int[] seconds = {0, 39, 40, 79, 80, 119, 120, 1038, 1039, 9999};
        int[] served = {0, 0, 1, 1, 2, 2, 3, 3, 4, 4};
        for (int i = 0; i < seconds.length; i++) {
            Check.due("by(0, " + seconds[i] + ")", x.by(0, seconds[i]), served[i]);
        }
        x.row(1, 0);
        Check.due("nobody", x.by(1, 0), 0);
        x.row(1, 16);
        Check.due("eight, of whom six leave", x.by(1, 9999), 2);
    }

    /** 28: "the first such order (by numbers) comes to a ROW (anew)". */
    private static void ordersOfOneAndOfSix() {
        TheUsual x = Check.shop("r00011 r00011 r00011 r00011 r00011 r00011");
        x.row(0, 40);
        Check.due("six strangers", x.order(0), 40 * (1 + 2 + 3 + 4 + 5));
        Check.rowIs("a longer row, anew", x, 0, 0, 1, 2, 3, 4, 5);
        for (int p = 5; p >= 0; p--) {
            x.serve(p, 5);
            x.serve(p, 5);
        }
        Check.due("six known ones", x.order(5), 9 * (1 + 2 + 3 + 4 + 5));
        Check.rowIs("a missing row, anew", x, 5, 0, 1, 2, 3, 4, 5);
        x.undo(10);
        Check.due("five known ones", x.order(4), 9 * (1 + 2 + 3 + 4 + 5));
        Check.rowIs("the stranger is the last", x, 4, 1, 2, 3, 4, 5, 0);
        TheUsual y = Check.shop("h00011");
        Check.due("one", y.order(3), 0);
        Check.rowIs("one", y, 3, 0);
    }

    /** 29: "n (0 .. 6) REGULARS .. (bits; the least of as good ones)". */
    private static void learningNobodyAndAll() {
        TheUsual x = Check.shop("r00019 r00019 r00019 r00019 r00019 r00019");
        for (int n = 0; n <= 6; n++) {
            Check.due("learn(" + n + ")", x.learn(n), (1 << n) - 1);
            Check.due("its seconds", x.asked(), 54 * 40 - n * 9 * 31);
        }
        x = Check.shop("r00011 r00012 r00011 r00012");
        Check.due("the best", x.learn(2), 2 + 8);
        Check.due("the least of as good ones", x.learn(1), 2);
        Check.due("the least of as good ones", x.learn(3), 1 + 2 + 8);
        TheUsual y = new TheUsual();
        y.row(0, 1);
        y.lay(0, 0, 7);
        y.at(0, 0);
        Check.due("nobody of nobody", y.learn(0), 0);
        Check.due("no seconds", y.asked(), 0);
    }

    /** 30: "pairs (a MORNING 0 .. 999, a THING ..)": none, twenty, the least and the greatest. */
    private static void emptyAndFullBooks() {
        TheUsual x = Check.shop("r00051 s00501 c00051 h00501 y00051 f00051");
        x.row(0, 0);
        Check.due("no sales", x.fits(0), 63);
        Check.row(x, 0, 0, 5);
        Check.due("the least morning, the greatest thing", x.fits(0), 2 + 8);
        Check.row(x, 0, 999, 0);
        Check.due("the greatest morning, the least thing", x.fits(0), 1 + 32);
        Check.row(x, 0, 999, 5);
        Check.due("the greatest of both", x.fits(0), 2 + 4 + 8 + 16);
        x.row(0, 40);
        Check.due("twenty sales", x.fits(0), 1 + 4 + 16 + 32);
        x.lay(0, 38, 3);
        Check.due("the last one parts them", x.fits(0), 1);
        x.row(0, 39);
        Check.finds("not by pairs", x, 0, x.fits(0), 5);
        x.row(0, 40);
        x.lay(0, 39, 6);
        Check.finds("the last is no thing", x, 0, x.fits(0), 3);
        x.lay(0, 39, 5);
        x.lay(0, 38, 1000);
        Check.finds("the last is no morning", x, 1, x.fits(0), 3);
    }

    /** 31: kinds go by the USUAL and the OTHER that are told, not by any regular. */
    private static void kindsOfOneThing() {
        TheUsual x = new TheUsual();
        x.row(0, 0);
        Check.due("no sales", x.kinds(0, 5, 0), 63);
        Check.row(x, 0, 3, 5, 4, 5, 9, 5);
        Check.due("usual and other the same", x.kinds(0, 5, 5), 63);
        Check.due("neither", x.kinds(0, 0, 1), 0);
        Check.row(x, 0, 3, 5, 999, 0);
        Check.due("a friday one alone", x.kinds(0, 0, 5), 32);
        Check.row(x, 0, 2, 0, 3, 5, 4, 5);
        Check.due("a changer alone", x.kinds(0, 0, 5), 4);
        Check.row(x, 0, 1, 5, 998, 0);
        Check.due("a shy one alone", x.kinds(0, 0, 5), 16);
    }

    /** 32: "The fewest sales of a book that are lies .. whose by asked() (the first)". */
    private static void liesOfTheFirst() {
        TheUsual x = Check.shop("r00551 r00011 r00011 c00011");
        x.row(0, 0);
        Check.due("no sales", x.lies(0), 0);
        Check.due("the first", x.asked(), 0);
        x.row(0, 40);
        Check.due("twenty sales, no lies", x.lies(0), 0);
        Check.due("the first of three", x.asked(), 1);
        Check.row(x, 0, 0, 3, 1, 3, 2, 3);
        Check.due("all are lies", x.lies(0), 3);
        Check.due("the first of all", x.asked(), 0);
        Check.row(x, 0, 3, 1, 4, 1, 0, 5);
        Check.due("one lie", x.lies(0), 1);
        Check.due("the last one's book", x.asked(), 3);
    }

    /** 33: "The first MORNING from one to another one (0 .. 999) .. NONE: none." */
    private static void apartOnTheFirstAndTheLast() {
        TheUsual x = Check.shop("r00011 c00011 f00011 r00011 r00551");
        Check.due("morning 0 alone", x.apart(0, 4, 0, 0), 0);
        Check.due("morning 999 alone", x.apart(0, 4, 999, 999), 999);
        Check.due("both ends count", x.apart(0, 1, 2, 3), 3);
        Check.due("not yet", x.apart(0, 1, 2, 2), NONE);
        Check.due("the last of all", x.apart(1, 2, 995, 999), 999);
        Check.due("ahead of the last of all", x.apart(1, 2, 995, 998), NONE);
        Check.due("never", x.apart(0, 3, 0, 999), NONE);
    }

    /** 34: of nobody, of all, without REGULARS; "who by asked() (bits)". */
    private static void sourOfNobodyAndOfAll() {
        TheUsual x = Check.shop("s00001 y00001 s00001 y00001 s00001 y00001");
        Check.due("the least thing: nobody", x.sour(0), 0);
        Check.due("who", x.asked(), 0);
        Check.due("the greatest thing: all", x.sour(5), 6);
        Check.due("who", x.asked(), 63);
        Check.due("those who say so", Check.shop("r00001 h00001 c00001 f00001").sour(5), 0);
        x = new TheUsual();
        x.row(0, 1);
        x.lay(0, 0, 7);
        x.at(0, 0);
        Check.due("without regulars", x.sour(5), 0);
        Check.due("without regulars: who", x.asked(), 0);
    }

    /** 35: "n (1 .. 3) who come this MORNING, each by how often it COMES, whoever came ahead". */
    private static void oddsOf1To3() {
        TheUsual x = Check.shop("r00001 r00112 r00223 r00334 r00445 r00556");
        Check.fraction("one", x, x.odds(1), 1, 1);
        Check.fraction("two", x, x.odds(2), 91 / 7, 441 / 7);
        Check.fraction("three", x, x.odds(3), 1, 21);
        x = Check.shop("r00009 r00009 r00009 r00009 r00009 r00009");
        Check.fraction("all alike", x, x.odds(3), 1, 1);
        x = Check.shop("c00014 r00009");
        Check.fraction("on morning 0", x, x.odds(2), 1, 1);
        for (int m = 1; m <= 3; m++) {
            x.morning();
        }
        Check.fraction("on morning 3", x, x.odds(2), 97, 169);
        Check.fraction("three on morning 3", x, x.odds(3), (64 + 729) / 13, 2197 / 13);
    }

    /** 36: "n (1 .. 20) SERVINGS". */
    private static void lotsOf1And20() {
        TheUsual x = Check.shop("r00011");
        Check.due("one", x.lots(1, 1), 9);
        Check.due("twenty", x.lots(20, 1), 180);
        Check.due("turns", x.count(3), 21);
        Check.due("nineteen", x.lots(19, 1), 171);
        Check.due("twenty, to the last turn", x.lots(20, 1), 180);
        Check.due("turns", x.count(3), 60);
    }

    /** 36: "48271 times it modulo 2147483647, the first from the seed (1 .. 2147483646)". */
    private static void lotsByTheLeastAndTheGreatestSeed() {
        for (int seed : new int[] {1, 2, 48271, 1899818559, HIGH - 2, HIGH - 1}) {
            TheUsual x = Check.shop("r00001 r11111 r22221 r33331 r01441 r02551");
            Check.due("all take 9", x.lots(20, seed), 180);
            BigInteger lot = BigInteger.valueOf(seed);
            int[] served = new int[6];
            for (int i = 0; i < 20; i++) {
                lot = lot.multiply(BigInteger.valueOf(48271)).mod(BigInteger.valueOf(HIGH));
                served[lot.mod(BigInteger.valueOf(6)).intValue()]++;
            }
            for (int p = 0; p < 6; p++) {
                Check.due("seed " + seed + ": " + p, Check.asked(x, x.regular(p, 6)), served[p]);
            }
        }
    }

    /** 37 to 39, 41: "0 before", "1 before", "0 before any". */
    private static void toldBefore() {
        TheUsual x = new TheUsual();
        Check.due("asked()", x.asked(), 0);
        Check.due("upper()", x.upper(), 0);
        Check.due("lower()", x.lower(), 1);
        Check.due("finding()", x.finding(), 0);
        x.row(9, 9);
        x.morning();
        Check.due("BAD and STATE are no findings", x.finding(), 0);
        x.mean(0);
        Check.due("asked() of what is refused", x.asked(), 0);
        x.likely(0, 0, 0);
        Check.due("upper() of what is refused", x.upper(), 0);
        Check.due("lower() of what is refused", x.lower(), 1);
        Check.due("finding()", x.finding(), 4);
    }

    /** 40: each count at its greatest. */
    private static void counts() {
        TheUsual x = Check.shop("s00001 s00001 s00001 s00001 y00001 y00001");
        for (int i = 0; i < 60; i++) {
            x.serve(i % 6, 5);
        }
        for (int r = 0; r < 6; r++) {
            x.row(r, 0);
        }
        for (int t = 0; t < 4; t++) {
            x.text(t, 0);
        }
        for (int k = 0; k < 3; k++) {
            x.keep(k);
        }
        int[] counts = {6, 0, 540, 60, 6, 60, 6, 6, 4, 3};
        for (int what = 0; what < 10; what++) {
            Check.due("count(" + what + ")", x.count(what), counts[what]);
        }
        x.tear(0);
        Check.due("a row less", x.count(7), 5);
    }

    /** 41, 42: "How often a FINDING (1 .. 5) was answered", each of them, and which was the latest. */
    private static void findings() {
        TheUsual x = Check.shop("r00011");
        x.row(1, 0);
        for (int times = 1; times <= 3; times++) {
            Check.finds("NOTHING", x, times - 1, x.at(0, 0), 1);
            Check.finds("BEYOND", x, times - 1, x.at(1, 0), 2);
            Check.finds("UNLIKE", x, times - 1, x.mark(0, 1), 3);
            Check.finds("NOUGHT", x, times - 1, x.mean(1), 4);
            Check.finds("SIZE", x, times - 1, x.row(1, -1), 5);
        }
        x.shop(0);
        Check.due("a new shop leaves finding()", x.finding(), 5);
        Check.due("a new shop leaves findings()", x.findings(5), 3);
    }

    /** 43: "(-1: missing)": what is empty, or kept without turns, is another thing than what is missing. */
    private static void digests() {
        TheUsual x = Check.shop("r00011");
        Check.due("all is missing", x.digest(), Check.digest(
            1, 0, 0, 0, 0, 0, 0, 0, 1, 0,
            0, 0, 0, 0, 1, 1, 0, 0, 0,
            -1, -1, -1,
            -1, -1, -1, -1, -1, -1,
            6, 114, 48, 48, 48, 49, 49, -1, -1, -1));
        x.row(5, 0);
        x.keep(2);
        x.text(3, 0);
        Check.due("all is empty", x.digest(), Check.digest(
            1, 0, 0, 0, 0, 0, 0, 1, 2, 1,
            0, 0, 0, 0, 1, 1, 0, 0, 0,
            -1, -1, 0,
            -1, -1, -1, -1, -1, 0,
            6, 114, 48, 48, 48, 49, 49, -1, -1, 0));
        x.row(5, 1);
        x.lay(5, 0, LOW);
        x.text(3, 1);
        x.put(3, 0, 128);
        Check.due("the least int, the least byte", x.digest(), Check.digest(
            1, 0, 0, 0, 0, 0, 0, 1, 2, 1,
            0, 0, 0, 0, 1, 1, 0, 0, 0,
            -1, -1, 0,
            -1, -1, -1, -1, -1, 1, LOW,
            6, 114, 48, 48, 48, 49, 49, -1, -1, 1, -128));
        x.tear(5);
        Check.due("torn is missing", x.digest(), Check.digest(
            1, 0, 0, 0, 0, 0, 0, 0, 2, 1,
            0, 0, 0, 0, 1, 1, 0, 0, 0,
            -1, -1, 0,
            -1, -1, -1, -1, -1, -1,
            6, 114, 48, 48, 48, 49, 49, -1, -1, 1, -128));
    }

    /** "An object is used for at most 512 calls after it has been made": the last of them is answered as the first. */
    private static void theLastOf512Calls() {
        TheUsual x = new TheUsual();
        for (int calls = 1; calls <= 511; calls++) {
            Check.due("tear(5)", x.tear(5), TheUsual.FINDING);
        }
        Check.due("findings(1), call 512", x.findings(1), 511);
    }
}
