/** Promises 1 to 7: a new object, row, lay, at, tear, copy, mean. */
public final class RowsTest {
    public static void main(String[] args) {
        newObject();
        row();
        layAndAt();
        tear();
        copy();
        copyRefused();
        mean();
        Check.end();
    }

    private static void newObject() {
        TheUsual x = new TheUsual();
        for (int what = 0; what < 10; what++) {
            Check.due("new: count(" + what + ")", x.count(what), 0);
        }
        for (int r = 0; r < 6; r++) {
            Check.finds("new: at(" + r + ", 0)", x, r, x.at(r, 0), 1);
        }
        for (int t = 0; t < 4; t++) {
            Check.finds("new: fault(" + t + ")", x, 6 + t, x.fault(t), 1);
        }
        Check.due("new: regular", x.regular(0, 0), TheUsual.BAD);
    }

    private static void row() {
        TheUsual x = new TheUsual();
        Check.due("row(0, 3)", x.row(0, 3), 3);
        Check.rowIs("row(0, 3)", x, 0, 0, 0, 0);
        Check.row(x, 0, 7, 8, 9, 10);
        Check.due("row(0, 2) again", x.row(0, 2), 2);
        Check.rowIs("row(0, 2) again", x, 0, 0, 0);
        Check.due("row(5, 40)", x.row(5, 40), 40);
        Check.due("row(5, 40): last place", x.at(5, 39), 1);
        Check.due("row(4, 0)", x.row(4, 0), 0);
        Check.due("three rows", x.count(7), 3);
        Check.due("row(0, 41)", x.row(0, 41), TheUsual.BAD);
        Check.due("row(0, max)", x.row(0, Integer.MAX_VALUE), TheUsual.BAD);
        Check.due("row(6, 1)", x.row(6, 1), TheUsual.BAD);
        Check.due("row(-1, 1)", x.row(-1, 1), TheUsual.BAD);
        Check.due("row(6, -1): BAD first", x.row(6, -1), TheUsual.BAD);
        Check.finds("row(0, -1)", x, 0, x.row(0, -1), 5);
        Check.finds("row(0, min)", x, 1, x.row(0, Integer.MIN_VALUE), 5);
        Check.rowIs("refused rows change nothing", x, 0, 0, 0);
        // What a longer row held must not come back.
        x.row(0, 4);
        Check.rowIs("row(0, 4) again", x, 0, 0, 0, 0, 0);
    }

    private static void layAndAt() {
        TheUsual x = new TheUsual();
        x.row(1, 3);
        Check.due("lay", x.lay(1, 2, Integer.MIN_VALUE), 1);
        Check.due("lay: what it was", x.asked(), 0);
        Check.due("lay again", x.lay(1, 2, -7), 1);
        Check.due("lay again: what it was", x.asked(), Integer.MIN_VALUE);
        Check.due("at", x.at(1, 2), 1);
        Check.due("at: asked()", x.asked(), -7);
        Check.due("lay(6, ..)", x.lay(6, 0, 0), TheUsual.BAD);
        Check.due("lay(-1, ..)", x.lay(-1, 0, 0), TheUsual.BAD);
        Check.due("at(6, 0)", x.at(6, 0), TheUsual.BAD);
        Check.due("at(-1, 0)", x.at(-1, 0), TheUsual.BAD);
        Check.finds("lay: none there", x, 0, x.lay(0, 0, 0), 1);
        Check.finds("at: none there", x, 1, x.at(0, -1), 1);
        Check.finds("lay: behind", x, 0, x.lay(1, 3, 1), 2);
        Check.finds("lay: ahead", x, 1, x.lay(1, -1, 1), 2);
        Check.finds("at: behind", x, 2, x.at(1, 3), 2);
        Check.finds("at: ahead", x, 3, x.at(1, Integer.MIN_VALUE), 2);
        Check.due("refused: asked() as it was", x.asked(), -7);
    }

    private static void tear() {
        TheUsual x = new TheUsual();
        x.row(0, 2);
        x.row(5, 0);
        Check.due("tear(0)", x.tear(0), 1);
        Check.due("tear(5)", x.tear(5), 1);
        Check.due("no rows", x.count(7), 0);
        Check.due("as if they had never been", x.digest(), new TheUsual().digest());
        Check.finds("tear(0) again", x, 0, x.tear(0), 1);
        Check.finds("at a torn one", x, 1, x.at(0, 0), 1);
        Check.due("tear(6)", x.tear(6), TheUsual.BAD);
        Check.due("tear(-1)", x.tear(-1), TheUsual.BAD);
    }

    private static void copy() {
        TheUsual x = new TheUsual();
        Check.row(x, 0, 1, 2, 3, 4, 5);
        Check.row(x, 1, 0, 0, 0);
        Check.due("copy to another", x.copy(0, 1, 1, 0, 3), 1);
        Check.rowIs("copy to another", x, 1, 2, 3, 4);
        Check.due("copy to itself, on", x.copy(0, 0, 0, 1, 4), 1);
        Check.rowIs("copy to itself, on", x, 0, 1, 1, 2, 3, 4);
        Check.due("copy to itself, back", x.copy(0, 2, 0, 0, 3), 1);
        Check.rowIs("copy to itself, back", x, 0, 2, 3, 4, 3, 4);
        Check.due("copy none", x.copy(0, 0, 1, 0, 0), 1);
        Check.due("copy none from the ends", x.copy(0, 5, 1, 3, 0), 1);
        Check.rowIs("copy none", x, 1, 2, 3, 4);
        x.row(2, 0);
        Check.due("copy none of an empty one", x.copy(2, 0, 1, 3, 0), 1);
        Check.due("copy none to an empty one", x.copy(1, 3, 2, 0, 0), 1);
        x.at(1, 0);
        x.copy(0, 0, 1, 0, 1);
        Check.due("copy leaves asked()", x.asked(), 2);
    }

    private static void copyRefused() {
        TheUsual x = new TheUsual();
        Check.row(x, 0, 1, 2, 3);
        Check.row(x, 1, 4, 5);
        Check.due("copy from 6", x.copy(6, 0, 0, 0, 0), TheUsual.BAD);
        Check.due("copy from -1", x.copy(-1, 0, 0, 0, -1), TheUsual.BAD);
        Check.due("copy to 6", x.copy(0, 0, 6, 0, 0), TheUsual.BAD);
        Check.due("copy to -1", x.copy(0, 0, -1, 0, 0), TheUsual.BAD);
        Check.finds("copy -1 of a missing one: SIZE first", x, 0, x.copy(5, 0, 0, 0, -1), 5);
        Check.finds("copy from a missing one", x, 0, x.copy(5, 0, 0, 9, 9), 1);
        Check.finds("copy to a missing one", x, 1, x.copy(0, 0, 5, 0, 1), 1);
        Check.finds("copy too many", x, 0, x.copy(0, 1, 1, 0, 3), 2);
        Check.finds("copy to too few", x, 1, x.copy(0, 0, 1, 0, 3), 2);
        Check.finds("copy to too few from 1 on", x, 2, x.copy(0, 0, 1, 1, 2), 2);
        Check.finds("copy from -1 on", x, 3, x.copy(0, -1, 1, 0, 1), 2);
        Check.finds("copy to -1 on", x, 4, x.copy(0, 0, 1, -1, 1), 2);
        Check.finds("copy max", x, 5, x.copy(0, 1, 1, 1, Integer.MAX_VALUE), 2);
        Check.finds("copy from max", x, 6, x.copy(0, Integer.MAX_VALUE, 1, 0, 1), 2);
        Check.finds("copy none from beyond", x, 7, x.copy(0, 4, 1, 0, 0), 2);
        x.row(2, 40);
        Check.finds("copy more than there are to a long one", x, 8, x.copy(0, 1, 2, 0, 3), 2);
        Check.finds("copy one behind the last to a long one", x, 9, x.copy(0, 3, 2, 0, 1), 2);
        Check.rowIs("refused copies change nothing", x, 0, 1, 2, 3);
        Check.rowIs("refused copies change nothing", x, 1, 4, 5);
    }

    private static void mean() {
        TheUsual x = new TheUsual();
        Check.row(x, 0, 1, 2, 4);
        Check.due("mean is cut", Check.asked(x, x.mean(0)), 2);
        Check.row(x, 0, -1, -2, -2);
        Check.due("mean is cut towards 0", Check.asked(x, x.mean(0)), -1);
        Check.row(x, 0, Integer.MAX_VALUE, Integer.MAX_VALUE, Integer.MAX_VALUE);
        Check.due("mean of great ones", Check.asked(x, x.mean(0)), Integer.MAX_VALUE);
        Check.row(x, 0, Integer.MIN_VALUE, Integer.MIN_VALUE);
        Check.due("mean of low ones", Check.asked(x, x.mean(0)), Integer.MIN_VALUE);
        Check.due("mean leaves upper()", x.upper(), 0);
        Check.due("mean(6)", x.mean(6), TheUsual.BAD);
        Check.due("mean(-1)", x.mean(-1), TheUsual.BAD);
        Check.finds("mean: none there", x, 0, x.mean(1), 1);
        x.row(1, 0);
        Check.finds("mean of none", x, 0, x.mean(1), 4);
        Check.due("refused: asked() as it was", x.asked(), Integer.MIN_VALUE);
    }
}
