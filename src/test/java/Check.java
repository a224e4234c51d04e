/** What all tests share: a count of wrong answers, and a shop put down by its text. */
final class Check {
    private static int wrong = 0;

    private Check() {
    }

    static void due(String call, long got, long want) {
        if (got != want) {
            wrong++;
            System.out.println(call + " answered " + got + ", due is " + want);
        }
    }

    /** A finding is due: the answer, which one it is, and that it was counted once. */
    static void finds(String call, TheUsual x, int countedAhead, int got, int finding) {
        due(call, got, TheUsual.FINDING);
        due(call + ": finding()", x.finding(), finding);
        due(call + ": findings(" + finding + ")", x.findings(finding), countedAhead + 1);
    }

    static void fraction(String call, TheUsual x, int got, long upper, long lower) {
        due(call, got, 1);
        due(call + ": upper()", x.upper(), upper);
        due(call + ": lower()", x.lower(), lower);
    }

    static void text(TheUsual x, int t, String signs) {
        x.text(t, signs.length());
        for (int i = 0; i < signs.length(); i++) {
            x.put(t, i, signs.charAt(i));
        }
    }

    static TheUsual shop(String signs) {
        TheUsual x = new TheUsual();
        text(x, 0, signs);
        x.shop(0);
        return x;
    }

    static void row(TheUsual x, int r, int... ints) {
        x.row(r, ints.length);
        for (int i = 0; i < ints.length; i++) {
            x.lay(r, i, ints[i]);
        }
    }

    static void rowIs(String call, TheUsual x, int r, int... ints) {
        for (int i = 0; i < ints.length; i++) {
            due(call + ": at(" + r + ", " + i + ")", x.at(r, i), 1);
            due(call + ": place " + i, x.asked(), ints[i]);
        }
        due(call + ": a place more", x.at(r, ints.length), TheUsual.FINDING);
    }

    static int asked(TheUsual x, int answer) {
        due("an answer", answer, 1);
        return x.asked();
    }

    /** The digest of values, as promise 43 says. */
    static long digest(int... values) {
        long h = 17;
        for (int v : values) {
            h = 31 * h + v;
        }
        return h;
    }

    static void end() {
        System.out.println(wrong == 0 ? "all answers are as due" : wrong + " answers are not as due");
        if (wrong != 0) {
            System.exit(1);
        }
    }
}
