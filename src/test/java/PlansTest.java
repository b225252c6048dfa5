/** Promises 24 to 28: plans, aside. */
public final class PlansTest {
    private static final Due due = new Due("PlansTest");

    public static void main(String[] args) {
        runRefused();
        run();
        shortestRefused();
        shortest();
        ways();
        stay();
        bad();
        due.end();
    }

    private static void runRefused() {
        WheelsSlip x = new WheelsSlip();
        due.is("run(6), BAD ahead of STATE", x.run(6), Make.BAD);
        due.is("run(-1)", x.run(-1), Make.BAD);
        due.is("run(0), STATE ahead of NOTHING", x.run(0), Make.STATE);
        due.is("no FINDING", x.finding(), 0);
        x = Make.train("e9990 id");
        due.finds("run(0), missing", x, x.run(0), Make.NOTHING);
        x.row(0, 13);
        x.lay(0, 0, -1);
        due.finds("run(0), SIZE ahead of UNLIKE", x, x.run(0), Make.SIZE);
        x.row(0, 12);
        x.lay(0, 11, 15);
        due.finds("run(0), 15", x, x.run(0), Make.UNLIKE);
        x.lay(0, 11, -1);
        due.finds("run(0), -1", x, x.run(0), Make.UNLIKE);
        x.row(0, 12);
        x.lay(0, 0, 15);
        due.finds("run(0), 15 at first", x, x.run(0), Make.UNLIKE);
        due.tells("at(0, 0)", x, x.at(0, 0), 1, 15);
        due.is("asked() stays", x.asked(), 15);
    }

    private static void run() {
        WheelsSlip x = Make.train("e9900 id w29 w29 w29");
        x.row(0, 0);
        due.tells("an empty one", x, x.run(0), 0, 3);
        Make.row(x, 0, 13, 1, 2, 3, 3, 11, 4, 4, 4, 4, 4, 4);
        long before = x.digest();
        due.tells("GONE", x, x.run(0), 5, 3);
        due.is("aside", x.digest(), before);
        Make.go(x, 13, 1, 2, 3, 3);
        due.is("GONE 1", Make.engine(x, 9), 1);
        Make.row(x, 1, 11, 11, 3, 10, 3);
        due.tells("how much further", x, x.run(1), 2, 3);
        x = Make.train("e9000 id w29 w21 w29");
        Make.row(x, 0, 1, 11, 1, 10, 11, 11, 11, 11, 6, 1);
        due.tells("passed over; it TEARS", x, x.run(0), 1, 1);
        Make.go(x, 1, 11, 1, 11, 11, 11, 6);
        due.is("the BRAKE is lost", x.count(0), 1);
        Make.row(x, 0, 14, 1);
        due.tells("14 passed over", x, x.run(0), 1, 1);
        x = Make.train("e1900 idl w29");
        Make.row(x, 0, 10, 13, 1, 10, 1);
        due.tells("no MINUTE for what is passed over", x, x.run(0), 0, 1);
        Make.row(x, 0, 10, 13, 10, 13, 1, 13, 1);
        due.tells("dry", x, x.run(0), 1, 1);
        x = Make.train("e9900 id");
        for (int i = 0; i < 60; i++) {
            x.go(13);
        }
        Make.row(x, 0, 0);
        due.tells("behind 60 DEEDS", x, x.run(0), 1, 0);
    }

    private static void shortestRefused() {
        WheelsSlip x = new WheelsSlip();
        due.is("shortest(5, 0)", x.shortest(5, 0), Make.BAD);
        due.is("shortest(-1, 0)", x.shortest(-1, 0), Make.BAD);
        due.is("shortest(1, 6)", x.shortest(1, 6), Make.BAD);
        due.is("shortest(1, -1)", x.shortest(1, -1), Make.BAD);
        due.is("shortest(1, 0) without a TRAIN", x.shortest(1, 0), Make.STATE);
        due.is("count(5)", x.count(5), 0);
    }

    private static void shortestIs(WheelsSlip x, int n, int... plan) {
        due.is("shortest(" + n + ", 3)", x.shortest(n, 3), plan.length);
        for (int i = 0; i < plan.length; i++) {
            due.is("shortest, at(3, " + i + ")", Make.place(x, 3, i), plan[i]);
        }
        due.is("no more of it", x.at(3, plan.length), WheelsSlip.FINDING);
    }

    private static void shortest() {
        WheelsSlip x = Make.train("e9900 id");
        Make.row(x, 3, 7, 8, 9);
        due.is("shortest(0, 3)", x.shortest(0, 3), Make.NONE);
        due.is("shortest(1, 3)", x.shortest(1, 3), Make.NONE);
        due.is("the ROW stays", Make.place(x, 3, 2), 9);
        shortestIs(x, 4, 13, 0);
        x.go(13);
        shortestIs(x, 4, 0);
        x = Make.train("e3500 id w39 w39");
        due.is("shortest(3, 3)", x.shortest(3, 3), Make.NONE);
        due.is("the ROW is missing still", x.at(3, 0), WheelsSlip.FINDING);
        shortestIs(x, 4, 2, 13, 3, 3);
        x = Make.train("e9900 id w31 w21");
        // Torn off is soonest.
        shortestIs(x, 3, 3, 0);
        x = Make.train("e2110 illdd w39");
        shortestIs(x, 4, 11, 13, 2, 2);
        x = Make.train("e2310 illld w39");
        shortestIs(x, 4, 10, 13, 2, 2);
        x = Make.train("e9900 id h99");
        shortestIs(x, 4, 13, 9, 11, 9);
        x = Make.train("e9000 id w99 w99");
        due.is("too few THINGS", x.shortest(4, 3), Make.NONE);
        due.is("the train is as it was", x.count(2), 0);
    }

    private static void ways() {
        WheelsSlip x = new WheelsSlip();
        due.is("ways(5)", x.ways(5), Make.BAD);
        due.is("ways(-1)", x.ways(-1), Make.BAD);
        due.is("ways(0) without a TRAIN", x.ways(0), Make.STATE);
        x = Make.train("e9200 id");
        due.tells("ways(0)", x, x.ways(0), 0, 0);
        due.tells("ways(1)", x, x.ways(1), 0, 0);
        due.tells("ways(2): 13, then 0 to 2", x, x.ways(2), 3, 3);
        x.go(13);
        due.tells("ways(1): 0 to 2", x, x.ways(1), 3, 3);
        due.tells("ways(0)", x, x.ways(0), 0, 0);
        String[] trains = {"e4312 idwl p39 w19", "e9910 id w11 s12", "e1520 il b11", "e9900 id w31 w21"};
        for (String signs : trains) {
            waysAsTheModelTriesThem(signs, 3);
        }
        waysAsTheModelTriesThem("e9110 id w21", 4);
    }

    private static void waysAsTheModelTriesThem(String signs, int n) {
        WheelsSlip x = Make.train(signs);
        Model model = Make.model(signs);
        int ways = model.ways(n);
        due.tells("ways(" + n + ") of " + signs, x, x.ways(n), ways, model.asked());
    }

    private static void stay() {
        WheelsSlip x = new WheelsSlip();
        due.is("stay(5)", x.stay(5), Make.BAD);
        due.is("stay(-1)", x.stay(-1), Make.BAD);
        due.is("stay(0) without a TRAIN", x.stay(0), Make.STATE);
        x = Make.train("e4500 id w39 w39 w39");
        due.is("stay(0)", x.stay(0), Make.NONE);
        due.is("stay(1)", x.stay(1), Make.NONE);
        due.is("stay(2): none left", x.stay(2), 3);
        due.is("stay(3): one left", x.stay(3), 2);
        due.is("stay(4): two left", x.stay(4), 1);
        Make.go(x, 2, 3, 11, 11);
        due.is("stay(3): all", x.stay(3), 0);
        due.is("stay(2): both that are TAKEN UP", x.stay(2), 1);
        x.go(13);
        due.is("stay(1): the BRAKE OFF", x.stay(1), 1);
        due.is("the train is as it was", x.count(0), 3);
        due.is("TAKEN UP stays", Make.engine(x, 7), 2);
        x.undo(1);
        x.go(13);
        due.is("stay(1): the one that is TAKEN UP", x.stay(1), 2);
        x = Make.train("e4500 id w39 w39 w39");
        Make.go(x, 2, 3, 1);
        due.is("stay(2): one of two that are TAKEN UP", x.stay(2), 2);
        x = Make.train("e9900 id");
        due.is("stay(2) without WAGONS", x.stay(2), 0);
        due.is("stay(1) without WAGONS", x.stay(1), Make.NONE);
        x = Make.train("e1900 il w99 w99");
        due.is("too heavy", x.stay(4), 2);
    }

    private static void bad() {
        WheelsSlip x = new WheelsSlip();
        due.is("bad() without a TRAIN", x.bad(), Make.STATE);
        x = Make.train("e4210 idwlwl w11");
        due.tells("leaves", x, x.bad(), 2, 4);
        Make.go(x, 12, 12, 12);
        due.tells("the next ones", x, x.bad(), 4, 4);
        Make.go(x, 10, 12);
        due.tells("SANDED, behind the first round", x, x.bad(), 7, 7);
        x = Make.train("e4900 idd w11");
        due.tells("the first", x, x.bad(), 0, 12);
        x.go(9);
        due.tells("HOLLOW", x, x.bad(), 1, 11);
        x = Make.train("e1900 iwl w11");
        Make.go(x, 9, 7);
        due.tells("both 0", x, x.bad(), 2, 0);
    }
}
