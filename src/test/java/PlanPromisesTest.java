/** Promises 24 to 28, sentence by sentence: plans, aside. */
public final class PlanPromisesTest {
    private static final Sentences due = new Sentences(PlanPromisesTest.class);
    private static final int LEAST = Integer.MIN_VALUE;
    private static final int MOST = Integer.MAX_VALUE;
    private static final String[] TRAINS = {"e9200 id", "e9000 id w29", "e9910 id w31 w21", "e2310 illld w39",
        "e4312 idwl p39 w19", "e9300 id r11 s12 w11", "e1520 il b11", "e5211 idw p13 b12"};

    public static void main(String[] args) throws IllegalAccessException {
        due.hold();
    }

    private static WheelsSlip train(String signs, int... things) {
        return Scenes.made(Scenes.train(signs, things));
    }

    private static void runs(String what, Scenes.Scene scene, int gone, int left, int... plan) {
        WheelsSlip x = Scenes.made(scene);
        Make.row(x, 5, plan);
        due.tells("run of " + what, x, x.run(5), gone, left);
    }

    @Says("A PLAN (12 THINGS at most) in a ROW is done")
    static void promise24PlanOf12AtMost() {
        Scenes.Scene light = Scenes.train("e9900 id");
        runs("none", light, 0, 0);
        runs("one", light, 0, 0, 0);
        runs("12", light, 11, 0, 13, 0, 0, 0, 0, 0, 0, 0, 0, 0, 0, 0);
        runs("12, the last alone", light, 1, 0, 12, 12, 12, 12, 12, 12, 12, 12, 12, 12, 13, 0);
        for (int k = 13; k <= 40; k++) {
            int n = k;
            due.finds("run of " + n, Scenes.busyAnd(x -> x.row(0, n)), x -> x.run(0), Make.SIZE);
        }
        due.leaves("run(0)", Scenes::busy, x -> x.run(0));
        due.leaves("run(0), it TEARS", Scenes.busyAnd(x -> Make.row(x, 0, 12, 6, 6)), x -> x.run(0));
    }

    @Says("a THING that can't be being passed over (no MINUTE):")
    static void promise24PassesOverWhatCantBe() {
        runs("more STEAM than there is", Scenes.train("e1110 idl"), 0, 0, 13, 2, 1);
        runs("more STEAM, then the MINUTE it takes", Scenes.train("e1110 idl"), 1, 0, 13, 2, 12, 1);
        runs("no SAND", Scenes.train("e1100 idl"), 0, 0, 13, 10, 1);
        runs("no SAND, then the MINUTE it takes", Scenes.train("e1100 idl"), 1, 0, 13, 10, 12, 1);
        runs("SAND once", Scenes.train("e1910 il"), 1, 0, 13, 10, 10, 2, 2);
        runs("no BRAKE", Scenes.train("e9900 id w11", 13, 9), 2, 0, 14, 0, 14, 0);
        runs("a BRAKE", Scenes.train("e9900 id", 13), 0, 0, 14, 0, 14, 0);
        runs("STEAM that it has used up itself", Scenes.train("e9100 id"), 1, 0, 13, 1, 1);
        runs("but not STEAM that it has blown up itself", Scenes.train("e9000 id w29"), 1, 1, 11, 13, 1, 1);
        runs("SAND that it has used up itself", Scenes.train("e1910 illdl"), 1, 0, 13, 10, 10, 3);
        runs("the BRAKE that it has lost itself", Scenes.train("e9900 id w11 w11"), 1, 0, 9, 14, 0);
        runs("nothing that can be", Scenes.train("e9000 id", 13), 0, 0, 9, 10, 9, 10, 1, 1);
    }

    @Says("how much further GONE;")
    static void promise24HowMuchFurtherGone() {
        Scenes.Scene gone = Scenes.train("e9900 id", 13, 0, 0);
        runs("none", gone, 0, 0);
        runs("three", gone, 3, 0, 0, 0, 0);
        runs("busy: one, then it SLIPS", Scenes::busy, 1, 3, 4, 4);
        runs("from a TRAIN of DEEDS", Scenes.train("e9900 id w29", 13, 1), 2, 1, 1, 1);
    }

    @Says("how many WAGONS are left by asked().")
    static void promise24HowManyAreLeft() {
        runs("all", Scenes.train("e9900 id w29 w21 w29"), 0, 3, 1, 2);
        runs("one", Scenes.train("e9900 id w29 w21 w29"), 0, 1, 1, 8);
        runs("none", Scenes.train("e9900 id w11 w21 w29"), 0, 0, 9);
        runs("none, and GONE", Scenes.train("e9900 id w11 w21 w29"), 1, 0, 9, 0);
        runs("those that were left", Scenes::torn, 0, 1, 12);
        runs("none of none", Scenes.train("e9900 id"), 0, 0, 0);
    }

    @Says("BAD; STATE: no TRAIN; NOTHING; SIZE: more than 12; UNLIKE: no THING.")
    static void promise24Bad() {
        due.badOutside("run", 0, 5, WheelsSlip::run);
        due.badOutside("run without a TRAIN", 0, 5, Scenes::trainless, WheelsSlip::run);
    }

    @Says("STATE: no TRAIN;")
    static void promise24State() {
        due.state("run(0)", Scenes::trainless, x -> x.run(0));
        due.state("run(2), empty", Scenes::trainless, x -> x.run(2));
        due.state("run(5), missing", Scenes::trainless, x -> x.run(5));
    }

    @Says("NOTHING;")
    static void promise24Nothing() {
        due.finds("run(5)", x -> x.run(5), Make.NOTHING);
        due.finds("run(0), torn", Scenes.busyAnd(x -> x.tear(0)), x -> x.run(0), Make.NOTHING);
    }

    @Says("SIZE: more than 12;")
    static void promise24SizeMoreThan12() {
        due.is("12 is well", Scenes.made(Scenes.busyAnd(x -> x.row(0, 12))).run(0), 0);
        due.finds("13", Scenes.busyAnd(x -> x.row(0, 13)), x -> x.run(0), Make.SIZE);
        due.finds("40", Scenes.busyAnd(x -> x.row(0, 40)), x -> x.run(0), Make.SIZE);
    }

    @Says("UNLIKE: no THING.")
    static void promise24UnlikeNoThing() {
        int[] none = {-1, 15, LEAST, MOST};
        for (int thing : none) {
            due.finds("the first", Scenes.busyAnd(x -> Make.row(x, 0, thing, 4)), x -> x.run(0), Make.UNLIKE);
            due.finds("the last", Scenes.busyAnd(x -> Make.row(x, 0, 4, thing)), x -> x.run(0), Make.UNLIKE);
            due.finds("the twelfth", Scenes.busyAnd(x -> {
                x.row(0, 12);
                x.lay(0, 11, thing);
            }), x -> x.run(0), Make.UNLIKE);
        }
        due.is("14 is one", Scenes.made(Scenes.busyAnd(x -> Make.row(x, 0, 14, 0))).run(0), 0);
    }

    @Says("(In this order.)")
    static void promise24Order() {
        due.badOutside("BAD ahead of STATE: run", 0, 5, Scenes::fresh, WheelsSlip::run);
        due.state("STATE ahead of NOTHING", Scenes::trainless, x -> x.run(5));
        due.state("STATE ahead of SIZE, UNLIKE", Scenes::trainless, x -> x.run(3));
        due.finds("SIZE ahead of UNLIKE", x -> x.run(3), Make.SIZE);
        due.finds("SIZE ahead of UNLIKE, the last", Scenes.busyAnd(x -> {
            x.row(0, 13);
            x.lay(0, 12, 15);
        }), x -> x.run(0), Make.SIZE);
    }

    private static void shortestIs(Scenes.Scene scene, int n, int... plan) {
        WheelsSlip x = Scenes.made(scene);
        due.is("shortest(" + n + ", 3)", x.shortest(n, 3), plan.length);
        for (int i = 0; i < plan.length; i++) {
            due.tells("shortest(" + n + ", 3), THING " + i, x, x.at(3, i), 1, plan[i]);
        }
        due.is("no more of it", x.at(3, plan.length), WheelsSlip.FINDING);
    }

    @Says("The shortest PLAN of n (0 .. 4) THINGS at most that STARTS")
    static void promise25ShortestOfNAtMost() {
        Scenes.Scene going = Scenes.busyAnd(Scenes.train("e9900 id", 13, 0));
        Scenes.Scene two = Scenes.busyAnd(Scenes.train("e9900 id"));
        Scenes.Scene three = Scenes.busyAnd(Scenes.train("e9900 id w29"));
        Scenes.Scene four = Scenes.busyAnd(Scenes.train("e9000 id w29"));
        Scenes.Scene five = Scenes.busyAnd(Scenes.train("e9000 id w39"));
        Scenes.Scene[] scenes = {going, two, three, four};
        int[][] plans = {{0}, {13, 0}, {13, 1, 1}, {11, 13, 1, 1}};
        for (int many = 1; many <= 4; many++) {
            for (int n = 0; n <= 4; n++) {
                int most = n;
                if (n < many) {
                    due.none("shortest(" + n + ", 3) of " + many, scenes[many - 1], x -> x.shortest(most, 3));
                } else {
                    shortestIs(scenes[many - 1], n, plans[many - 1]);
                }
            }
        }
        due.none("more than 4", five, x -> x.shortest(4, 3));
    }

    @Says("each being done (of alike ones the first by numbers)")
    static void promise25EachBeingDoneTheFirstByNumbers() {
        shortestIs(Scenes.train("e3500 id w39 w39"), 4, 2, 13, 3, 3);
        shortestIs(Scenes.train("e9900 id w31 w21"), 3, 3, 0);
        shortestIs(Scenes.train("e9900 id h99"), 4, 13, 9, 11, 9);
        shortestIs(Scenes.train("e2310 illld w39"), 4, 10, 13, 2, 2);
        shortestIs(Scenes.train("e2110 illdd w39"), 4, 11, 13, 2, 2);
        shortestIs(Scenes.train("e9200 id w39", 13), 3, 2, 11, 2);
        shortestIs(Scenes.train("e9900 id b21 w11"), 2, 3, 0);
        shortestIs(Scenes::busy, 4, 4);
        shortestIs(Scenes::torn, 4, 2);
    }

    @Says("each being done (of alike ones the first by numbers)")
    static void promise25AsTheModelTriesThem() {
        for (String signs : TRAINS) {
            for (int n = 0; n <= 4; n++) {
                WheelsSlip x = train(signs);
                Model model = Make.model(signs);
                due.is("shortest(" + n + ", 1) of " + signs, x.shortest(n, 1), model.shortest(n, 1));
                due.is("and its ROW", x.digest(), model.digest());
            }
        }
    }

    @Says("comes to a ROW (anew): how many THINGS.")
    static void promise25ComesToARowAnew() {
        for (int r = 0; r < 6; r++) {
            WheelsSlip x = Scenes.made(Scenes.busyAnd(y -> y.undo(6)));
            WheelsSlip twin = Scenes.made(Scenes.busyAnd(y -> y.undo(6)));
            due.is("shortest(4, " + r + ")", x.shortest(4, r), 2);
            Make.row(twin, r, 4, 4);
            due.is("the ROW holds it, all else stays", x.digest(), twin.digest());
        }
        WheelsSlip x = train("e9900 id");
        x.row(2, 40);
        x.lay(2, 39, 7);
        int told = x.asked();
        due.is("shortest(2, 2)", x.shortest(2, 2), 2);
        due.is("asked() is not told", x.asked(), told);
        due.finds("no more of it", x, x.at(2, 2), Make.BEYOND);
    }

    @Says("NONE: none.")
    static void promise25None() {
        for (int r = 0; r < 6; r++) {
            int row = r;
            due.none("shortest(0, " + r + ")", Scenes::busy, x -> x.shortest(0, row));
            due.none("shortest(4, " + r + ")", Scenes.busyAnd(Scenes.train("e9000 id w99")), x -> x.shortest(4, row));
        }
    }

    @Says("BAD; STATE: no TRAIN.")
    static void promise25Bad() {
        due.badOutside("shortest of n", 0, 4, (x, n) -> x.shortest(n, 0));
        due.badOutside("shortest to a ROW", 0, 5, (x, r) -> x.shortest(4, r));
        due.badOutside("shortest of 0 to a ROW", 0, 5, (x, r) -> x.shortest(0, r));
        due.badOutside("shortest of n without a TRAIN", 0, 4, Scenes::trainless, (x, n) -> x.shortest(n, 0));
        due.badOutside("shortest to a ROW without a TRAIN", 0, 5, Scenes::trainless, (x, r) -> x.shortest(4, r));
    }

    @Says("STATE: no TRAIN.")
    static void promise25State() {
        for (int k = 0; k <= 4; k++) {
            int n = k;
            due.state("shortest(" + n + ", 0)", Scenes::trainless, x -> x.shortest(n, 0));
            due.state("shortest(" + n + ", 5)", Scenes::trainless, x -> x.shortest(n, 5));
        }
    }

    private static void waysAre(Scenes.Scene scene, int n, int ways, int whole) {
        WheelsSlip x = Scenes.made(scene);
        due.tells("ways(" + n + ")", x, x.ways(n), ways, whole);
    }

    @Says("How many PLANS of n (0 .. 4) THINGS, each being done, START;")
    static void promise26HowManyStart() {
        Scenes.Scene light = Scenes.train("e9200 id");
        waysAre(light, 0, 0, 0);
        waysAre(light, 1, 0, 0);
        waysAre(light, 2, 3, 3);
        Scenes.Scene going = Scenes.train("e9200 id", 13, 0);
        waysAre(going, 0, 0, 0);
        waysAre(going, 1, 3, 3);
        // Without STEAM: 13, 0 and any of five; 13, 11 and 0, 1, 2; 13, 12, 0; 13, 13, 0; one of 0, 12, 14 ahead; 11 ahead.
        waysAre(Scenes.train("e9000 id"), 3, 5 + 3 + 1 + 1 + 3 + 3, 16);
        waysAre(Scenes.train("e9000 id w99"), 4, 0, 0);
        for (int k = 0; k <= 4; k++) {
            int n = k;
            due.leaves("ways(" + n + ")", Scenes::busy, x -> x.ways(n));
        }
    }

    @Says("how many of these tear nothing by asked().")
    static void promise26HowManyTearNothing() {
        // 13, 1 and 1; by 2 it TEARS, then 0 or 1.
        waysAre(Scenes.train("e9200 id w11"), 3, 3, 1);
        // What was torn ahead of the PLAN is none of its own.
        waysAre(Scenes.train("e9200 id w11", 13, 2), 1, 2, 2);
        waysAre(Scenes.train("e9900 id w11 w11"), 1, 0, 0);
        waysAre(Scenes.train("e9400 id w11 w11"), 2, 3 * 4, 0);
    }

    @Says("How many PLANS of n (0 .. 4) THINGS, each being done, START;")
    static void promise26AsTheModelTriesThem() {
        for (String signs : TRAINS) {
            for (int n = 0; n <= 4; n++) {
                WheelsSlip x = train(signs);
                Model model = Make.model(signs);
                int ways = model.ways(n);
                due.tells("ways(" + n + ") of " + signs, x, x.ways(n), ways, model.asked());
            }
        }
    }

    @Says("BAD; STATE: no TRAIN.")
    static void promise26Bad() {
        due.badOutside("ways", 0, 4, WheelsSlip::ways);
        due.badOutside("ways without a TRAIN, BAD ahead of STATE", 0, 4, Scenes::trainless, WheelsSlip::ways);
    }

    @Says("STATE: no TRAIN.")
    static void promise26State() {
        for (int k = 0; k <= 4; k++) {
            int n = k;
            due.state("ways(" + n + ")", Scenes::trainless, x -> x.ways(n));
        }
    }

    @Says("How many WAGONS, from the last one on, have to stay (the BRAKE goes on as it is) "
        + "so that a PLAN of n (0 .. 4) THINGS at most STARTS (0: none).")
    static void promise27HowManyHaveToStay() {
        WheelsSlip x = train("e4500 id w39 w39 w39");
        due.is("stay(2): none left", x.stay(2), 3);
        due.is("stay(3): one left", x.stay(3), 2);
        due.is("stay(4): two left", x.stay(4), 1);
        x = train("e4500 id w39 w39 w39", 2, 3, 11, 11);
        due.is("stay(2): both that are TAKEN UP", x.stay(2), 1);
        due.is("stay(3): all", x.stay(3), 0);
        due.is("stay(4): all", x.stay(4), 0);
        x = train("e4500 id w39 w39 w39", 2, 3, 1);
        due.is("stay(2): one of two that are TAKEN UP", x.stay(2), 2);
        due.is("without WAGONS", train("e9900 id").stay(2), 0);
        due.is("going", train("e9900 id", 13).stay(1), 0);
        due.is("six", train("e1000 il w99 w99 w99 w99 w99 w99").stay(2), 6);
        due.is("asked() is not told", x.asked(), 0);
    }

    @Says("(the BRAKE goes on as it is)")
    static void promise27TheBrakeGoesOn() {
        due.is("ON: it has to be 13 first", train("e1900 il w99").stay(2), 1);
        due.none("ON: one THING is not enough", Scenes.train("e1900 il w99"), x -> x.stay(1));
        due.is("OFF", train("e1900 il w99", 13).stay(1), 1);
        due.is("lost", train("e9900 id w19 w11", 1, 13, 8, 12).stay(1), 1);
        due.is("lost: one is taken up, and goes", train("e9900 id w19 w11", 1, 13, 8, 12).stay(2), 0);
        due.is("BRAKED, the BRAKE ON", train("e9900 id b99 w99", 13, 5, 14).stay(3), 1);
    }

    @Says("so that a PLAN of n (0 .. 4) THINGS at most STARTS (0: none).")
    static void promise27AsTheModelTriesThem() {
        for (String signs : TRAINS) {
            for (int n = 0; n <= 4; n++) {
                due.is("stay(" + n + ") of " + signs, train(signs).stay(n), Make.model(signs).stay(n));
                int stay = Make.model(signs, 13, 1).stay(n);
                due.is("stay(" + n + ") of " + signs + " behind 13, 1", train(signs, 13, 1).stay(n), stay);
            }
        }
        for (int k = 0; k <= 4; k++) {
            int n = k;
            due.leaves("stay(" + n + ")", Scenes::busy, x -> x.stay(n));
            due.leaves("stay(" + n + ")", Scenes::torn, x -> x.stay(n));
        }
    }

    @Says("NONE: not even with none left.")
    static void promise27None() {
        due.none("stay(0)", Scenes::busy, x -> x.stay(0));
        due.none("stay(0), going", Scenes.train("e9900 id", 13, 0), x -> x.stay(0));
        due.none("stay(1), the BRAKE ON", Scenes.train("e9900 id w11"), x -> x.stay(1));
        due.none("stay(1) without WAGONS", Scenes.train("e9900 id"), x -> x.stay(1));
    }

    @Says("BAD; STATE: no TRAIN.")
    static void promise27Bad() {
        due.badOutside("stay", 0, 4, WheelsSlip::stay);
        due.badOutside("stay without a TRAIN, BAD ahead of STATE", 0, 4, Scenes::trainless, WheelsSlip::stay);
    }

    @Says("STATE: no TRAIN.")
    static void promise27State() {
        for (int k = 0; k <= 4; k++) {
            int n = k;
            due.state("stay(" + n + ")", Scenes::trainless, x -> x.stay(n));
        }
    }

    private static void badIs(String what, WheelsSlip x, int minute, int grip) {
        due.tells("bad(), " + what, x, x.bad(), minute, grip);
    }

    @Says("The MINUTE (this one, and those behind it, as many as there are RAILS together) in which GRIP would be least")
    static void promise28TheMinuteOfLeastGrip() {
        badIs("this one", train("e4000 ildw"), 0, 4);
        badIs("the next", train("e4000 idlw"), 1, 4);
        badIs("the last of three", train("e4000 idwl"), 2, 4);
        badIs("the last of six", train("e4000 idwdwdl"), 5, 4);
        badIs("one RAIL", train("e4000 iw"), 0, 8);
        badIs("one RAIL, later", train("e4000 iw", 12, 12, 12), 3, 8);
        badIs("behind the last one the first again", train("e4000 ildw", 12), 3, 4);
        badIs("from the last one on", train("e4000 idldw", 12, 12, 12), 5, 4);
        badIs("one round on, the last of it", train("e4000 ilddddd", 12), 6, 4);
        badIs("behind 60 DEEDS", Scenes.made(Scenes::full), 62, 8);
        due.leaves("bad()", Scenes::busy, WheelsSlip::bad);
    }

    @Says({"all else being as now (the first);", "GRIP then by asked()."})
    static void promise28AllElseBeingAsNow() {
        badIs("HOLLOW", train("e4900 iddl", 9), 2, 3);
        badIs("SANDED", train("e4910 iddl", 10), 2, 7);
        badIs("HOLLOW, SANDED", train("e4910 iddl", 9, 10), 2, 6);
        badIs("busy", Scenes.made(Scenes::busy), 11, 8);
        badIs("0 at least", train("e1900 iwwl", 9, 7), 2, 0);
    }

    @Says("(the first);")
    static void promise28TheFirstOfAlikeOnes() {
        badIs("all alike", train("e4000 idddddd"), 0, 12);
        badIs("two of them", train("e4000 idlwl"), 1, 4);
        badIs("this one and another", train("e4000 ildl"), 0, 4);
        badIs("all 0", train("e1900 iwl", 9, 7), 2, 0);
        badIs("later, two of them", train("e4000 ildl", 12), 2, 4);
    }

    @Says("STATE: no TRAIN.")
    static void promise28State() {
        due.state("bad()", Scenes::trainless, WheelsSlip::bad);
    }
}
