/** Promises 29 to 33: chances, a book of tries, lots. */
public final class OddsAndBookTest {
    private static final Due due = new Due("OddsAndBookTest");

    public static void main(String[] args) {
        oddsRefused();
        odds();
        weights();
        lies();
        trial();
        lotsRefused();
        lots();
        due.end();
    }

    private static void oddsRefused() {
        WheelsSlip x = new WheelsSlip();
        due.is("odds(6, 1, 1), BAD ahead of STATE", x.odds(6, 1, 1), Make.BAD);
        due.is("odds(-1, 1, 1)", x.odds(-1, 1, 1), Make.BAD);
        due.is("odds(0, -1, 1)", x.odds(0, -1, 1), Make.BAD);
        due.is("odds(0, 1, -1)", x.odds(0, 1, -1), Make.BAD);
        due.is("odds(0, 13, 0)", x.odds(0, 13, 0), Make.BAD);
        due.is("odds(0, 0, 13)", x.odds(0, 0, 13), Make.BAD);
        due.is("odds(0, 7, 6)", x.odds(0, 7, 6), Make.BAD);
        due.is("odds(0, most, most)", x.odds(0, Integer.MAX_VALUE, Integer.MAX_VALUE), Make.BAD);
        due.is("odds(0, 1, 1), STATE ahead of NOTHING", x.odds(0, 1, 1), Make.STATE);
        x = Make.train("e9990 id");
        due.finds("odds(0, 1, 1), missing", x, x.odds(0, 1, 1), Make.NOTHING);
        x.row(0, 7);
        x.lay(0, 0, 15);
        due.finds("odds(0, 1, 1), SIZE ahead of UNLIKE", x, x.odds(0, 1, 1), Make.SIZE);
        x.row(0, 6);
        x.lay(0, 5, 15);
        due.finds("odds(0, 1, 1), 15", x, x.odds(0, 1, 1), Make.UNLIKE);
        x.lay(0, 5, -1);
        due.finds("odds(0, 1, 1), -1", x, x.odds(0, 1, 1), Make.UNLIKE);
        due.is("upper()", x.upper(), 0);
        due.is("lower()", x.lower(), 1);
    }

    private static void oddsAre(WheelsSlip x, int d, int w, long upper, long lower) {
        due.is("odds(0, " + d + ", " + w + ")", x.odds(0, d, w), 1);
        due.is("upper()", x.upper(), upper);
        due.is("lower()", x.lower(), lower);
    }

    private static void odds() {
        WheelsSlip x = Make.train("e2910 il");
        Make.row(x, 0, 13, 3);
        long before = x.digest();
        oddsAre(x, 5, 0, 5, 12);
        oddsAre(x, 4, 5, 1, 3);
        oddsAre(x, 12, 0, 1, 1);
        oddsAre(x, 0, 12, 0, 1);
        due.is("aside", x.digest(), before);
        Make.row(x, 0, 13, 2, 9, 9);
        oddsAre(x, 3, 3, 1, 2);
        Make.row(x, 0, 13, 2, 3);
        // 2 goes on a dry or damp RAIL; if it SLIPS, 3 goes on none, a dry one being HOLLOW then.
        oddsAre(x, 1, 2, 1, 4);
        Make.row(x, 0, 13, 3, 2);
        // 3 goes on a dry one; if it SLIPS, 2 goes on a dry one still: 1/4 and 3/4 of 1/4.
        oddsAre(x, 3, 3, 7, 16);
        Make.row(x, 0, 13, 10, 3);
        oddsAre(x, 0, 12, 1, 1);
        x.row(0, 0);
        oddsAre(x, 3, 3, 0, 1);
        x = Make.train("e1900 il");
        x.go(13);
        Make.row(x, 0, 1, 1, 1, 1, 1, 1);
        oddsAre(x, 12, 0, 1, 1);
        oddsAre(x, 0, 12, 1, 1);
        oddsAre(x, 0, 0, 0, 1);
        Make.row(x, 0, 1);
        oddsAre(x, 1, 1, 1, 6);
        x.go(0);
        oddsAre(x, 1, 1, 1, 6);
        x = Make.train("e9900 il w89");
        Make.row(x, 0, 13, 9);
        oddsAre(x, 3, 4, 0, 1);
        Make.row(x, 0, 13, 9, 11, 8);
        // On a dry or damp RAIL 9 TEARS it off, and on such a one 8 goes then without it; else 8 but takes it up.
        oddsAre(x, 3, 4, 49, 144);
        x = Make.train("e9900 il");
        Make.row(x, 0, 13, 9);
        oddsAre(x, 3, 4, 7, 12);
        x.mean(0);
        oddsAre(x, 3, 4, 7, 12);
        due.is("asked() is not told by it", x.asked(), 11);
    }

    private static void weights() {
        WheelsSlip x = new WheelsSlip();
        due.is("weights(6)", x.weights(6), Make.BAD);
        due.is("weights(-1)", x.weights(-1), Make.BAD);
        due.finds("weights(0)", x, x.weights(0), Make.NOTHING);
        x.row(0, 4);
        x.lay(0, 0, 3);
        due.finds("not by threes", x, x.weights(0), Make.SIZE);
        unlike(x, 3, 0, 0);
        unlike(x, -1, 0, 0);
        unlike(x, 0, 10, 0);
        unlike(x, 0, -1, 0);
        unlike(x, 0, 0, 2);
        unlike(x, 0, 0, -1);
        x.row(0, 0);
        due.is("no tries", x.weights(0), 1022);
        Make.row(x, 0, 0, 5, 1);
        due.is("10 SLIPS on dry: 1 to 3", x.weights(0), 14);
        Make.row(x, 0, 0, 5, 1, 1, 2, 0);
        due.is("4 does not on damp: 2 up", x.weights(0), 12);
        Make.row(x, 0, 0, 5, 1, 1, 2, 0, 2, 1, 0, 2, 2, 1);
        due.is("2 does not on leaves, 4 does", x.weights(0), 12);
        Make.row(x, 0, 0, 5, 1, 0, 6, 0);
        due.is("none", x.weights(0), 0);
        Make.row(x, 0, 2, 9, 0);
        due.is("none so heavy", x.weights(0), 0);
    }

    private static void unlike(WheelsSlip x, int rail, int steam, int slipped) {
        Make.row(x, 0, 0, 0, 0, rail, steam, slipped);
        due.finds("weights, a number that is none", x, x.weights(0), Make.UNLIKE);
        due.finds("lies, a number that is none", x, x.lies(0, 1), Make.UNLIKE);
    }

    private static void lies() {
        WheelsSlip x = new WheelsSlip();
        due.is("lies(6, 1)", x.lies(6, 1), Make.BAD);
        due.is("lies(-1, 1)", x.lies(-1, 1), Make.BAD);
        due.is("lies(0, 0)", x.lies(0, 0), Make.BAD);
        due.is("lies(0, 10)", x.lies(0, 10), Make.BAD);
        due.finds("lies(0, 1)", x, x.lies(0, 1), Make.NOTHING);
        x.row(0, 5);
        x.lay(0, 0, 9);
        due.finds("not by threes", x, x.lies(0, 1), Make.SIZE);
        x.row(0, 0);
        due.tells("no tries", x, x.lies(0, 9), 0, Make.NONE);
        Make.row(x, 0, 0, 5, 1, 1, 2, 0, 2, 1, 0, 2, 2, 1);
        due.tells("lies(0, 2)", x, x.lies(0, 2), 0, Make.NONE);
        due.tells("lies(0, 1)", x, x.lies(0, 1), 2, 1);
        due.tells("lies(0, 4)", x, x.lies(0, 4), 2, 0);
        due.tells("lies(0, 9)", x, x.lies(0, 9), 2, 0);
        Make.row(x, 0, 0, 0, 0, 0, 0, 0, 0, 0, 1);
        due.tells("the last", x, x.lies(0, 5), 1, 2);
        Make.row(x, 0, 0, 0, 0, 0, 0, 0, 0, 0, 0, 0, 0, 0, 0, 0, 1, 0, 0, 1);
        due.tells("the last two", x, x.lies(0, 5), 2, 4);
    }

    private static void trial() {
        WheelsSlip x = new WheelsSlip();
        due.is("an empty set", x.trial(0, 0), Make.BAD);
        due.is("bit 0", x.trial(3, 0), Make.BAD);
        due.is("bit 10", x.trial(1026, 0), Make.BAD);
        due.is("bit 31", x.trial(Integer.MIN_VALUE | 2, 0), Make.BAD);
        due.is("rail 3", x.trial(2, 3), Make.BAD);
        due.is("rail -1", x.trial(2, -1), Make.BAD);
        due.tells("one WEIGHT", x, x.trial(512, 2), 0, 1);
        due.tells("1 and 9, dry", x, x.trial(514, 0), 2, 1);
        due.tells("1 and 9, damp", x, x.trial(514, 1), 2, 1);
        due.tells("1 and 9, leaves", x, x.trial(514, 2), 1, 1);
        due.tells("all, leaves", x, x.trial(1022, 2), 3, 5);
        due.tells("8 and 9, dry: not to be parted", x, x.trial(768, 0), 0, 2);
        due.tells("8 and 9, damp", x, x.trial(768, 1), 9, 1);
        due.tells("7, 8 and 9, leaves", x, x.trial(896, 2), 4, 2);
    }

    private static void lotsRefused() {
        WheelsSlip x = new WheelsSlip();
        due.is("lots(0, 1)", x.lots(0, 1), Make.BAD);
        due.is("lots(21, 1)", x.lots(21, 1), Make.BAD);
        due.is("lots(1, 0)", x.lots(1, 0), Make.BAD);
        due.is("lots(1, -1)", x.lots(1, -1), Make.BAD);
        due.is("lots(1, 2147483647)", x.lots(1, Integer.MAX_VALUE), Make.BAD);
        due.is("lots(1, 1) without a TRAIN", x.lots(1, 1), Make.STATE);
        x = Make.train("e9990 id");
        for (int i = 0; i < 41; i++) {
            x.go(12);
        }
        due.is("61", x.lots(20, 1), Make.FULL);
        due.is("none is done", x.count(2), 41);
        due.holds("60", x.lots(19, 1) >= 0);
        due.is("all are done", x.count(2), 60);
        due.is("BAD ahead of FULL", x.lots(21, 1), Make.BAD);
    }

    private static void lots() {
        String[] trains = {"e9990 id", "e5423 idwl w12 s34 h56 b78", "e1100 il", "e9990 id p91 r12"};
        int[] seeds = {1, 77, 31337, 2147483646, 1234567};
        for (String signs : trains) {
            for (int seed : seeds) {
                WheelsSlip x = Make.train(signs);
                WheelsSlip y = Make.train(signs);
                x.go(13);
                y.go(13);
                y.go(0);
                x.go(0);
                int before = Make.engine(y, 9);
                long number = seed;
                for (int i = 0; i < 20; i++) {
                    number = number * 48271L % 2147483647L;
                    if (y.go((int) (number / 16 % 15)) < 0) {
                        y.go(11);
                    }
                }
                due.is("lots(20, " + seed + ") of " + signs, x.lots(20, seed), Make.engine(y, 9) - before);
                due.is("and what it did", x.digest(), y.digest());
            }
        }
    }
}
