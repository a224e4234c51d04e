/** Promises 30 to 33: fits, kinds, lies, apart. */
public final class BooksTest {
    public static void main(String[] args) {
        fits();
        kinds();
        lies();
        booksRefused();
        apart();
        Check.end();
    }

    private static void fits() {
        TheUsual x = Check.shop("r00011 s00011 c00011 h00011 y00011 f00011");
        x.row(0, 0);
        Check.due("fits, an empty book", x.fits(0), 63);
        Check.row(x, 0, 0, 0);
        Check.due("fits, morning 0", x.fits(0), 63);
        Check.row(x, 0, 0, 0, 1, 1);
        Check.due("fits, an odd morning", x.fits(0), 16);
        Check.row(x, 0, 8, 1, 3, 1);
        Check.due("fits, mornings in no order", x.fits(0), 4 + 32);
        Check.row(x, 0, 3, 1, 999, 0);
        Check.due("fits, morning 999", x.fits(0), 32);
        Check.row(x, 0, 3, 1, 3, 0);
        Check.due("fits, unlike things on one morning", x.fits(0), 0);
        Check.row(x, 0, 3, 5);
        Check.due("fits nobody", x.fits(0), 0);
        int[] whole = new int[40];
        for (int m = 0; m < 20; m++) {
            whole[2 * m] = m;
            whole[2 * m + 1] = x.wants(5, m);
        }
        Check.row(x, 1, whole);
        Check.due("fits, a whole row", x.fits(1), 32);
        whole[39] = 1 - whole[39];
        Check.row(x, 1, whole);
        Check.due("fits, a whole row, the last a lie", x.fits(1), 0);
        TheUsual empty = new TheUsual();
        empty.row(0, 2);
        Check.due("fits without regulars", empty.fits(0), 0);
    }

    private static void kinds() {
        TheUsual x = new TheUsual();
        x.row(0, 0);
        Check.due("kinds, an empty book", x.kinds(0, 0, 1), 63);
        Check.row(x, 0, 2, 4);
        Check.due("kinds, morning 2", x.kinds(0, 4, 3), 63);
        Check.due("kinds, its other on morning 2", x.kinds(0, 3, 4), 0);
        Check.row(x, 0, 4, 4);
        Check.due("kinds, its usual on morning 4", x.kinds(0, 4, 3), 1 + 2 + 8 + 16 + 32);
        Check.due("kinds, its other on morning 4", x.kinds(0, 3, 4), 4);
        Check.row(x, 0, 1, 5);
        Check.due("kinds, its other on morning 1", x.kinds(0, 0, 5), 16);
        Check.row(x, 0, 7, 5);
        Check.due("kinds, its other on morning 7", x.kinds(0, 0, 5), 4 + 16 + 32);
        Check.due("kinds, the same", x.kinds(0, 5, 5), 63);
        Check.due("kinds, neither", x.kinds(0, 1, 2), 0);
    }

    private static void liesAre(TheUsual x, int lies, int whose, int... pairs) {
        Check.row(x, 2, pairs);
        Check.due("lies", x.lies(2), lies);
        Check.due("lies: whose", x.asked(), whose);
    }

    private static void lies() {
        TheUsual x = Check.shop("r00011 c00011 y00011 r00231");
        liesAre(x, 0, 0);
        liesAre(x, 0, 0, 0, 0);
        liesAre(x, 0, 1, 0, 0, 3, 1, 4, 1);
        liesAre(x, 0, 2, 0, 0, 3, 1, 4, 0);
        liesAre(x, 1, 0, 0, 0, 1, 0, 2, 5);
        liesAre(x, 1, 2, 0, 0, 1, 1, 2, 5);
        liesAre(x, 0, 3, 5, 2, 6, 2);
        liesAre(x, 2, 3, 5, 2, 6, 3, 7, 2, 8, 3, 9, 2);
        liesAre(x, 3, 0, 0, 5, 0, 5, 0, 5);
        x = Check.shop("r00011 r00011 r00011 r00011 r00011 c00321");
        liesAre(x, 0, 5, 0, 3, 3, 2);
        Check.text(x, 1, "r00011");
        x.shop(1);
        liesAre(x, 2, 0, 0, 3, 3, 2);
    }

    private static void bookFinds(TheUsual x, int finding, int... pairs) {
        Check.row(x, 2, pairs);
        int ahead = x.findings(finding);
        Check.finds("fits", x, ahead, x.fits(2), finding);
        Check.finds("kinds", x, ahead + 1, x.kinds(2, 0, 0), finding);
        Check.finds("lies", x, ahead + 2, x.lies(2), finding);
    }

    private static void booksRefused() {
        TheUsual x = new TheUsual();
        for (int r : new int[] {6, -1}) {
            Check.due("fits: BAD", x.fits(r), TheUsual.BAD);
            Check.due("kinds: BAD", x.kinds(r, 0, 0), TheUsual.BAD);
            Check.due("lies: BAD", x.lies(r), TheUsual.BAD);
        }
        for (int thing : new int[] {6, -1, TheUsual.NONE}) {
            Check.due("kinds: a bad usual", x.kinds(0, thing, 0), TheUsual.BAD);
            Check.due("kinds: a bad other", x.kinds(0, 0, thing), TheUsual.BAD);
        }
        Check.due("lies without regulars, row", x.lies(0), TheUsual.STATE);
        Check.finds("fits without regulars, row", x, 0, x.fits(0), 1);
        x = Check.shop("r00011");
        Check.finds("fits: none there", x, 0, x.fits(2), 1);
        Check.finds("kinds: none there", x, 1, x.kinds(2, 0, 0), 1);
        Check.finds("lies: none there", x, 2, x.lies(2), 1);
        bookFinds(x, 5, 0);
        bookFinds(x, 5, -1, 6, 0);
        bookFinds(x, 3, 1000, 0);
        bookFinds(x, 3, -1, 0);
        bookFinds(x, 3, 0, 6);
        bookFinds(x, 3, 0, -1);
        bookFinds(x, 3, 0, 0, 0, TheUsual.NONE);
        Check.due("refused: asked() as it was", x.asked(), 0);
    }

    private static void apart() {
        TheUsual x = Check.shop("r00011 c00011 f00011 y00011 r00111");
        Check.due("apart from the first on", x.apart(0, 4, 0, 0), 0);
        Check.due("apart by a change", x.apart(0, 1, 0, 999), 3);
        Check.due("apart by a change, from 5", x.apart(1, 0, 5, 999), 5);
        Check.due("not apart ahead of it", x.apart(0, 1, 0, 2), TheUsual.NONE);
        Check.due("apart by a friday", x.apart(1, 2, 0, 999), 4);
        Check.due("apart by the next friday", x.apart(1, 2, 5, 9), 9);
        Check.due("not apart in between", x.apart(1, 2, 5, 8), TheUsual.NONE);
        Check.due("apart by the last friday", x.apart(1, 2, 995, 999), 999);
        Check.due("apart by a shy one", x.apart(0, 3, 2, 3), 3);
        Check.due("apart(0, 0, ..)", x.apart(0, 0, 0, 1), TheUsual.BAD);
        Check.due("apart(5, ..)", x.apart(5, 0, 0, 1), TheUsual.BAD);
        Check.due("apart(0, 5, ..)", x.apart(0, 5, 0, 1), TheUsual.BAD);
        Check.due("apart(-1, ..)", x.apart(-1, 0, 0, 1), TheUsual.BAD);
        Check.due("apart from -1", x.apart(0, 1, -1, 1), TheUsual.BAD);
        Check.due("apart to 1000", x.apart(0, 4, 0, 1000), TheUsual.BAD);
        Check.due("apart from 1000", x.apart(0, 4, 1000, 1000), TheUsual.BAD);
        Check.due("apart, back", x.apart(0, 4, 5, 4), TheUsual.BAD);
    }
}
