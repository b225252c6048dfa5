/** Promises 1 to 7: a new object, rows. */
public final class RowsTest {
    private static final Due due = new Due("RowsTest");

    public static void main(String[] args) {
        newObject();
        row();
        lay();
        at();
        tear();
        copy();
        mean();
        due.end();
    }

    private static void newObject() {
        WheelsSlip x = new WheelsSlip();
        for (int what = 0; what < 8; what++) {
            due.is("new: count(" + what + ")", x.count(what), 0);
        }
        for (int r = 0; r < 6; r++) {
            due.finds("new: at(" + r + ", 0)", x, x.at(r, 0), Make.NOTHING);
        }
        for (int t = 0; t < 4; t++) {
            due.finds("new: fault(" + t + ")", x, x.fault(t), Make.NOTHING);
        }
        due.is("new: engine(0)", x.engine(0), Make.STATE);
        WheelsSlip other = new WheelsSlip();
        x.row(0, 3);
        due.is("new: objects share nothing", other.count(5), 0);
    }

    private static void row() {
        WheelsSlip x = new WheelsSlip();
        due.is("row(5, 40)", x.row(5, 40), 40);
        due.is("row(0, 0)", x.row(0, 0), 0);
        due.is("count(5)", x.count(5), 2);
        x.lay(5, 39, 7);
        due.is("row(5, 40) anew", x.row(5, 40), 40);
        due.tells("at(5, 39)", x, x.at(5, 39), 1, 0);
        due.is("row(5, 3)", x.row(5, 3), 3);
        due.finds("at(5, 3)", x, x.at(5, 3), Make.BEYOND);
        due.is("row(-1, 1)", x.row(-1, 1), Make.BAD);
        due.is("row(6, 1)", x.row(6, 1), Make.BAD);
        due.is("row(5, 41)", x.row(5, 41), Make.BAD);
        due.is("row(6, -1), BAD ahead of SIZE", x.row(6, -1), Make.BAD);
        due.is("no SIZE yet", x.findings(Make.SIZE), 0);
        due.finds("row(5, -1)", x, x.row(5, -1), Make.SIZE);
        due.finds("row(5, least)", x, x.row(5, Integer.MIN_VALUE), Make.SIZE);
        due.is("row(5, most)", x.row(5, Integer.MAX_VALUE), Make.BAD);
        due.tells("at(5, 2) stays", x, x.at(5, 2), 1, 0);
    }

    private static void lay() {
        WheelsSlip x = new WheelsSlip();
        due.is("lay(6, 0, 1)", x.lay(6, 0, 1), Make.BAD);
        due.is("lay(-1, 0, 1)", x.lay(-1, 0, 1), Make.BAD);
        due.finds("lay(1, 0, 1)", x, x.lay(1, 0, 1), Make.NOTHING);
        x.row(1, 2);
        due.tells("lay(1, 1, most)", x, x.lay(1, 1, Integer.MAX_VALUE), 1, 0);
        due.tells("lay(1, 1, least)", x, x.lay(1, 1, Integer.MIN_VALUE), 1, Integer.MAX_VALUE);
        due.finds("lay(1, 2, 1)", x, x.lay(1, 2, 1), Make.BEYOND);
        due.finds("lay(1, -1, 1)", x, x.lay(1, -1, 1), Make.BEYOND);
        due.is("asked() stays", x.asked(), Integer.MAX_VALUE);
        due.tells("at(1, 1)", x, x.at(1, 1), 1, Integer.MIN_VALUE);
        due.tells("at(1, 0)", x, x.at(1, 0), 1, 0);
    }

    private static void at() {
        WheelsSlip x = new WheelsSlip();
        due.is("at(6, 0)", x.at(6, 0), Make.BAD);
        due.is("at(-1, 0)", x.at(-1, 0), Make.BAD);
        due.finds("at(0, 0)", x, x.at(0, 0), Make.NOTHING);
        Make.row(x, 0, 5, -6, 7);
        due.tells("at(0, 0)", x, x.at(0, 0), 1, 5);
        due.tells("at(0, 1)", x, x.at(0, 1), 1, -6);
        due.finds("at(0, 3)", x, x.at(0, 3), Make.BEYOND);
        due.finds("at(0, -1)", x, x.at(0, -1), Make.BEYOND);
        due.is("asked() stays", x.asked(), -6);
    }

    private static void tear() {
        WheelsSlip x = new WheelsSlip();
        due.is("tear(6)", x.tear(6), Make.BAD);
        due.is("tear(-1)", x.tear(-1), Make.BAD);
        due.finds("tear(2)", x, x.tear(2), Make.NOTHING);
        x.row(2, 0);
        due.is("tear(2)", x.tear(2), 1);
        due.is("count(5)", x.count(5), 0);
        due.finds("tear(2) again", x, x.tear(2), Make.NOTHING);
        due.finds("at(2, 0)", x, x.at(2, 0), Make.NOTHING);
        due.is("row(2, 1)", x.row(2, 1), 1);
    }

    private static void copy() {
        WheelsSlip x = new WheelsSlip();
        Make.row(x, 0, 1, 2, 3, 4);
        Make.row(x, 1, 9, 8);
        due.is("copy(0, 2, 1, 0, 2)", x.copy(0, 2, 1, 0, 2), 1);
        due.is("into", Make.place(x, 1, 0) * 10 + Make.place(x, 1, 1), 34);
        due.is("copy on itself", x.copy(0, 0, 0, 1, 3), 1);
        due.is("as if taken ahead", Make.place(x, 0, 1) * 100 + Make.place(x, 0, 2) * 10 + Make.place(x, 0, 3), 123);
        due.is("copy back", x.copy(0, 1, 0, 0, 3), 1);
        due.is("forward", Make.place(x, 0, 0) * 100 + Make.place(x, 0, 1) * 10 + Make.place(x, 0, 2), 123);
        due.is("n 0 at the ends", x.copy(0, 4, 1, 2, 0), 1);
        due.finds("i above the size, n 0", x, x.copy(0, 5, 1, 0, 0), Make.BEYOND);
        due.finds("j above the size, n 0", x, x.copy(0, 0, 1, 3, 0), Make.BEYOND);
        due.finds("i below 0, n 0", x, x.copy(0, -1, 1, 0, 0), Make.BEYOND);
        due.finds("j below 0, n 0", x, x.copy(0, 0, 1, -1, 0), Make.BEYOND);
        due.finds("too many from", x, x.copy(0, 3, 1, 0, 2), Make.BEYOND);
        due.finds("too many to", x, x.copy(0, 0, 1, 1, 2), Make.BEYOND);
        due.finds("n the most", x, x.copy(0, 1, 1, 1, Integer.MAX_VALUE), Make.BEYOND);
        due.finds("i the most", x, x.copy(0, Integer.MAX_VALUE, 1, 1, 1), Make.BEYOND);
        due.is("from BAD", x.copy(6, 0, 1, 0, -1), Make.BAD);
        due.is("to BAD", x.copy(0, 0, -1, 0, -1), Make.BAD);
        due.finds("SIZE ahead of NOTHING", x, x.copy(5, 0, 1, 0, -1), Make.SIZE);
        due.finds("NOTHING ahead of BEYOND: from", x, x.copy(5, -1, 1, 0, 1), Make.NOTHING);
        due.finds("NOTHING ahead of BEYOND: to", x, x.copy(0, -1, 5, 0, 1), Make.NOTHING);
    }

    private static void mean() {
        WheelsSlip x = new WheelsSlip();
        due.is("mean(6)", x.mean(6), Make.BAD);
        due.is("mean(-1)", x.mean(-1), Make.BAD);
        due.finds("mean(0)", x, x.mean(0), Make.NOTHING);
        x.row(0, 0);
        due.finds("mean(0) of none", x, x.mean(0), Make.NOUGHT);
        Make.row(x, 0, 3, 4);
        due.tells("mean of 3, 4", x, x.mean(0), 1, 3);
        Make.row(x, 0, -3, -4);
        due.tells("mean of -3, -4", x, x.mean(0), 1, -3);
        Make.row(x, 0, Integer.MAX_VALUE, Integer.MAX_VALUE, Integer.MAX_VALUE);
        due.tells("mean of the most", x, x.mean(0), 1, Integer.MAX_VALUE);
    }
}
