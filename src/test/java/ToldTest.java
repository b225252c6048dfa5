/** Promises 34 to 40: what is told. */
public final class ToldTest {
    private static final Due due = new Due("ToldTest");

    public static void main(String[] args) {
        asked();
        chances();
        count();
        finding();
        digestOfNothing();
        digest();
        due.end();
    }

    private static void asked() {
        WheelsSlip x = new WheelsSlip();
        due.is("asked() at first", x.asked(), 0);
        Make.text(x, 0, "e5673 idwl w23 s45");
        x.train(0);
        Make.row(x, 0, 4, 5);
        due.tells("lay", x, x.lay(0, 0, 13), 1, 4);
        due.tells("at", x, x.at(0, 1), 1, 5);
        due.tells("mean", x, x.mean(0), 1, 9);
        due.tells("wagon", x, x.wagon(1, 1), 1, 4);
        due.tells("engine", x, x.engine(2), 1, 7);
        due.tells("grip", x, x.grip(), 15, 18);
        due.tells("steam", x, x.steam(), 7, 3);
        due.tells("worst", x, x.worst(), 0, 98);
        due.tells("run", x, x.run(0), 0, 0);
        due.tells("ways", x, x.ways(2), 12, 0);
        due.tells("bad", x, x.bad(), 2, 5);
        Make.row(x, 0, 0, 9, 0, 0, 9, 1);
        due.tells("lies", x, x.lies(0, 1), 1, 0);
        due.tells("trial", x, x.trial(1022, 0), 7, 5);
        x.go(0);
        x.load(1);
        x.would(1);
        x.mark(1, 2);
        x.put(0, 0, 3);
        x.shortest(1, 1);
        x.stay(1);
        x.weights(0);
        x.odds(1, 1, 1);
        x.lots(1, 1);
        x.keep(0);
        x.on(0);
        x.undo(0);
        x.count(0);
        x.digest();
        x.at(5, 5);
        x.engine(10);
        x.wagon(9, 9);
        x.mean(5);
        x.lies(0, 0);
        x.trial(0, 0);
        x.ways(9);
        x.run(5);
        due.is("asked() stays", x.asked(), 5);
    }

    private static void chances() {
        WheelsSlip x = new WheelsSlip();
        due.is("upper() at first", x.upper(), 0);
        due.is("lower() at first", x.lower(), 1);
        x = Make.train("e1900 id");
        x.go(13);
        Make.row(x, 0, 1);
        x.odds(0, 3, 0);
        due.is("upper()", x.upper(), 1);
        due.is("lower()", x.lower(), 4);
        x.odds(0, 13, 0);
        x.odds(1, 1, 1);
        due.is("upper() stays", x.upper(), 1);
        due.is("lower() stays", x.lower(), 4);
        x.odds(0, 0, 0);
        due.is("upper(), none", x.upper(), 0);
        due.is("lower(), none", x.lower(), 1);
    }

    private static void countIs(WheelsSlip x, int... counts) {
        for (int what = 0; what < counts.length; what++) {
            due.is("count(" + what + ")", x.count(what), counts[what]);
        }
    }

    private static void count() {
        WheelsSlip x = new WheelsSlip();
        countIs(x, 0, 0, 0, 0, 0, 0, 0, 0);
        due.is("count(-1)", x.count(-1), Make.BAD);
        due.is("count(8)", x.count(8), Make.BAD);
        x.row(3, 0);
        x.text(1, 0);
        Make.text(x, 0, "e9991 idwl h19 r11 b12 w11 h11");
        x.train(0);
        countIs(x, 5, 3, 0, 3 + 3 + 5 + 2 + 3, 3, 1, 2, 0);
        Make.go(x, 13, 2);
        x.keep(1);
        countIs(x, 5, 3, 2, 3 + 3 + 2 + 2 + 3, 3, 1, 2, 1);
        x.go(3);
        due.is("it TEARS? 6 PULLS, LOAD 6: no", x.count(0), 5);
        x.go(6);
        countIs(x, 2, 3, 4, 6, 2, 1, 2, 1);
    }

    private static void finding() {
        WheelsSlip x = new WheelsSlip();
        due.is("finding() at first", x.finding(), 0);
        for (int f = 1; f <= 5; f++) {
            due.is("findings(" + f + ") at first", x.findings(f), 0);
        }
        due.is("findings(0)", x.findings(0), Make.BAD);
        due.is("findings(6)", x.findings(6), Make.BAD);
        due.is("findings(-1)", x.findings(-1), Make.BAD);
        due.finds("NOTHING", x, x.tear(0), Make.NOTHING);
        due.finds("NOTHING", x, x.on(0), Make.NOTHING);
        x.row(0, 0);
        due.finds("BEYOND", x, x.at(0, 0), Make.BEYOND);
        due.finds("NOUGHT", x, x.mean(0), Make.NOUGHT);
        due.finds("SIZE", x, x.row(0, -5), Make.SIZE);
        x.row(0, 3);
        x.lay(0, 0, 3);
        due.finds("UNLIKE", x, x.weights(0), Make.UNLIKE);
        due.is("BAD", x.row(9, 9), Make.BAD);
        due.is("finding() stays", x.finding(), Make.UNLIKE);
        int[] often = {2, 1, 1, 1, 1};
        for (int f = 1; f <= 5; f++) {
            due.is("findings(" + f + ")", x.findings(f), often[f - 1]);
        }
    }

    private static void digestOfNothing() {
        WheelsSlip x = new WheelsSlip();
        long h = 17;
        for (int i = 0; i < 8; i++) {
            h = 31 * h;
        }
        for (int i = 0; i < 3 + 6 + 4; i++) {
            h = 31 * h - 1;
        }
        due.is("digest() at first", x.digest(), h);
    }

    private static void digest() {
        WheelsSlip x = new WheelsSlip();
        Make.text(x, 2, "e9992 idwl p13 r37 b38");
        x.train(2);
        x.put(2, 0, -7);
        Make.row(x, 4, -1, 1 << 30);
        Make.go(x, 1, 13, 4);
        x.keep(1);
        Make.go(x, 10);
        x.asked();
        int told = x.asked();
        long h = 17;
        for (int what = 0; what < 8; what++) {
            h = 31 * h + x.count(what);
        }
        long got = x.digest();
        due.is("asked() stays", x.asked(), told);
        for (int what = 0; what < 10; what++) {
            h = 31 * h + Make.engine(x, what);
        }
        for (int i = 0; i < x.count(0); i++) {
            for (int what = 0; what < 6; what++) {
                h = 31 * h + Make.wagon(x, i, what);
            }
        }
        int[] kept = {-1, 3, -1};
        int[] rows = {-1, -1, -1, -1, 2, -1, 1 << 30, -1};
        for (int v : kept) {
            h = 31 * h + v;
        }
        for (int v : rows) {
            h = 31 * h + v;
        }
        h = (31 * (31 * h - 1) - 1) * 31 + 22;
        String signs = "e9992 idwl p13 r37 b38";
        for (int i = 0; i < signs.length(); i++) {
            h = 31 * h + (i == 0 ? -7 : signs.charAt(i));
        }
        due.is("digest()", got, 31 * h - 1);
    }
}
