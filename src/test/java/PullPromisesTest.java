/** Promises 19 to 23, sentence by sentence: what grips, pulls, jerks. */
public final class PullPromisesTest {
    private static final Sentences due = new Sentences(PullPromisesTest.class);

    public static void main(String[] args) throws IllegalAccessException {
        due.hold();
    }

    private static WheelsSlip train(String signs, int... things) {
        return Scenes.made(Scenes.train(signs, things));
    }

    private static void gripIs(String what, WheelsSlip x, int grip, int strewn) {
        due.tells("grip(), " + what, x, x.grip(), grip, strewn);
    }

    @Says("GRIP now; with SAND strewn (as if SANDED) by asked().")
    static void promise19GripNow() {
        WheelsSlip x = train("e4910 idwl w99 w99");
        gripIs("dry", x, 12, 15);
        x.go(7);
        gripIs("damp, HOLLOW 1", x, 7, 10);
        x.go(10);
        gripIs("leaves, SANDED", x, 6, 6);
        x.go(12);
        gripIs("dry again, SANDED", x, 14, 14);
        x.go(0);
        gripIs("damp, SANDED no more", x, 7, 10);
        gripIs("busy", Scenes.made(Scenes::busy), 14, 14);
        due.leaves("grip()", Scenes::busy, WheelsSlip::grip);
        due.leaves("grip()", Scenes::torn, WheelsSlip::grip);
    }

    @Says("with SAND strewn (as if SANDED) by asked().")
    static void promise19GripWithSandAsIfThereWere() {
        gripIs("no SAND", train("e5000 iw"), 10, 13);
        gripIs("0 at least, HOLLOW 2 of 1", train("e1900 il", 9, 7), 0, 3);
        gripIs("the most", train("e9900 id"), 27, 30);
        gripIs("the least", train("e1900 il"), 1, 4);
    }

    @Says("STATE: no TRAIN.")
    static void promise19State() {
        due.state("grip()", Scenes::trainless, WheelsSlip::grip);
    }

    @Says("LOAD of n WAGONS (0 .. all).")
    static void promise20LoadOfNWagons() {
        WheelsSlip x = train("e9991 id w31 h31 s31 p31 r31 b31");
        int[] loads = {0, 4, 11, 15, 17, 24, 31};
        for (int n = 0; n < loads.length; n++) {
            due.is("load(" + n + ")", x.load(n), loads[n]);
        }
        x.go(13);
        due.is("all, the BRAKE OFF", x.load(6), 28);
        due.is("five, the BRAKE OFF", x.load(5), 24);
        due.is("of no WAGONS", train("e9900 id").load(0), 0);
        due.is("the most", train("e9003 id h91 h91 h91 h91 h91 h91").load(6), 126);
        due.leaves("load(3)", Scenes::busy, y -> y.load(3));
        x = Scenes.made(Scenes::busy);
        x.load(2);
        due.is("asked() is not told", x.asked(), Scenes.BUSY_ASKED);
    }

    @Says("BAD.")
    static void promise20Bad() {
        due.badOutside("load", 0, 3, WheelsSlip::load);
        due.badOutside("load of six", 0, 6, Scenes.train("e9991 id w31 h31 s31 p31 r31 b31"), WheelsSlip::load);
        due.badOutside("load, lost ones", 0, 1, Scenes::torn, WheelsSlip::load);
        due.badOutside("load of none", 0, 0, Scenes.train("e9900 id"), WheelsSlip::load);
        due.badOutside("load without a TRAIN", 0, 0, Scenes::trainless, WheelsSlip::load);
    }

    private static void steamIs(String what, WheelsSlip x, int most, int least) {
        due.tells("steam(), " + what, x, x.steam(), most, least);
    }

    @Says("STEAM (0 .. 9) that does not SLIP now, the most;")
    static void promise21TheMostThatDoesNotSlip() {
        for (int weight = 1; weight <= 9; weight++) {
            for (int rail = 0; rail < 3; rail++) {
                int most = Math.min(9, weight * (3 - rail) / 2);
                steamIs("WEIGHT " + weight + " on " + rail, train("e" + weight + "000 i" + "dwl".charAt(rail)), most, 0);
                int sanded = Math.min(9, (weight * (3 - rail) + 3) / 2);
                steamIs("WEIGHT " + weight + " on " + rail + ", SANDED",
                    train("e" + weight + "010 i" + "dwl".charAt(rail), 10), sanded, 0);
            }
        }
        steamIs("GRIP 0", train("e1900 il", 9), 0, 0);
        // On leaves it SLIPS once, then the RAIL is damp: 18 less 1.
        steamIs("GRIP 17: 8 PULLS 16", train("e9900 ilw", 9), 8, 0);
        due.leaves("steam()", Scenes::busy, WheelsSlip::steam);
    }

    @Says("the least that is enough to take up the next WAGON, or, if all are, to go, by asked()")
    static void promise21TheLeastToTakeUpTheNext() {
        for (int tons = 1; tons <= 9; tons++) {
            steamIs("LOAD " + tons, train("e9000 id w" + tons + "9 w99"), 9, (tons + 1) / 2);
            steamIs("LOAD " + 2 * tons, train("e9000 id h" + tons + "9 w99"), 9, tons);
        }
        steamIs("LOAD 0", train("e9000 id p19 w99"), 9, 0);
        steamIs("with the first", train("e9900 id w39 w49 w99", 2), 9, 4);
        steamIs("with the two first", train("e9900 id w39 w49 w19 w99", 2, 4), 9, 4);
        steamIs("BRAKED, the BRAKE ON", train("e9000 id b49 w99"), 9, 4);
        steamIs("BRAKED, the BRAKE OFF", train("e9000 id b49 w99", 13), 9, 2);
    }

    @Says("or, if all are, to go, by asked()")
    static void promise21TheLeastToGo() {
        steamIs("one, LOAD 5", train("e9900 id w59", 13, 3), 9, 3);
        steamIs("two, LOAD 6", train("e9900 id w29 w49", 13, 1, 3), 9, 3);
        steamIs("none", train("e9000 id"), 9, 0);
        steamIs("the one that is left", train("e9900 id w39 w11", 2, 13, 8), 9, 2);
        steamIs("busy", Scenes.made(Scenes::busy), 7, 4);
    }

    @Says("(NONE: none of 0 .. 9;")
    static void promise21NoneOf0To9() {
        steamIs("LOAD 17", train("e9003 id h79 w99"), 9, 9);
        steamIs("LOAD 18", train("e9000 id h99 w99"), 9, 9);
        steamIs("LOAD 19", train("e9001 id h99 w99"), 9, Make.NONE);
        steamIs("LOAD 21", train("e9003 id h99 w99"), 9, Make.NONE);
        steamIs("LOAD 18 with the second", train("e9900 id w99 w99 w99", 5), 9, 9);
        steamIs("LOAD 19 with the second", train("e9900 id w99 h59 w99", 5), 9, Make.NONE);
        steamIs("to go: LOAD 9 and 3 of the BRAKE", train("e9900 id h89 b19", 8, 13, 11, 9, 14), 9, Make.NONE);
        steamIs("to go: LOAD 17", train("e9900 id h89 b19", 8, 13, 11, 9), 9, 9);
    }

    @Says("whether the BRAKE is ON, it SLIPS, TEARS, or not).")
    static void promise21WhetherItSlipsTearsOrNot() {
        steamIs("the last, the BRAKE ON", train("e9000 id w49"), 9, 2);
        steamIs("the last, the BRAKE OFF", train("e9000 id w49", 13), 9, 2);
        steamIs("to go, the BRAKE ON", train("e9900 id w49", 13, 2, 14), 9, 2);
        steamIs("it would SLIP", train("e1000 il w99 w99"), 0, 5);
        steamIs("it would TEAR, RUSTY", train("e9001 id r11 w99"), 9, 2);
        steamIs("it would TEAR, SLACK", train("e9000 id s21 w99"), 9, 1);
        steamIs("more than there is", train("e9000 id w99 w99"), 9, 5);
    }

    @Says("STATE: no TRAIN.")
    static void promise21State() {
        due.state("steam()", Scenes::trainless, WheelsSlip::steam);
    }

    private static void would(String signs, int[] things, int... came) {
        for (int steam = 0; steam <= 9; steam++) {
            WheelsSlip x = train(signs, things);
            due.is("would(" + steam + ") of " + signs, x.would(steam), came[steam]);
            if (steam <= Make.engine(x, 1)) {
                due.is("go(" + steam + ") of " + signs, x.go(steam), came[steam]);
            }
        }
    }

    @Says("What would come of STEAM given now (0 to 5, as go() tells)")
    static void promise22WhatWouldCome() {
        int[] none = {};
        would("e4990 id w21 w41 w21", none, 0, 2, 3, 3, 3, 3, 3, 1, 1, 1);
        would("e4990 id w21 w41 w21", new int[] {1, 13}, 5, 0, 0, 2, 3, 3, 3, 1, 1, 1);
        would("e4990 id w29 w29", new int[] {1, 13, 2}, 5, 5, 4, 4, 4, 4, 4, 1, 1, 1);
        would("e9990 id w29 w29", new int[] {1}, 0, 0, 0, 0, 0, 0, 0, 0, 0, 0);
        would("e1990 il", new int[] {13}, 4, 1, 1, 1, 1, 1, 1, 1, 1, 1);
        would("e1990 il", new int[] {13, 10}, 4, 4, 4, 1, 1, 1, 1, 1, 1, 1);
    }

    @Says("whether there is as much or not.")
    static void promise22WhetherThereIsAsMuchOrNot() {
        would("e4090 id w21 w41 w21", new int[] {}, 0, 2, 3, 3, 3, 3, 3, 1, 1, 1);
        would("e9100 id w29 w29", new int[] {1, 13}, 5, 0, 2, 2, 2, 2, 2, 3, 3, 3);
        for (int k = 0; k < 10; k++) {
            int steam = k;
            due.leaves("would(" + steam + ")", Scenes::busy, x -> x.would(steam));
            due.leaves("would(" + steam + ")", Scenes.train("e4090 id w21 w41 w21"), x -> x.would(steam));
        }
        WheelsSlip x = Scenes.made(Scenes::busy);
        x.would(9);
        due.is("asked() is not told", x.asked(), Scenes.BUSY_ASKED);
        due.is("behind 60 DEEDS", Scenes.made(Scenes::full).would(0), 0);
    }

    @Says("BAD; STATE: no TRAIN.")
    static void promise22Bad() {
        due.badOutside("would", 0, 9, WheelsSlip::would);
        due.badOutside("would without a TRAIN, BAD ahead of STATE", 0, 9, Scenes::trainless, WheelsSlip::would);
    }

    @Says("STATE: no TRAIN.")
    static void promise22State() {
        for (int k = 0; k < 10; k++) {
            int steam = k;
            due.state("would(" + steam + ")", Scenes::trainless, x -> x.would(steam));
        }
    }

    private static void worstIs(String what, WheelsSlip x, int i, int strain) {
        due.tells("worst(), " + what, x, x.worst(), i, strain + 100);
    }

    @Says("For each WAGON, as if it was the next one to be TAKEN UP, by the least STEAM of 0 .. 9 that is enough "
        + "(if there is such): by how much this PULLS more than the LOAD with it, and by how much it is SLACK, "
        + "less what it HOLDS: the WAGON of which that is most")
    static void promise23TheWagonOfWhichThatIsMost() {
        worstIs("even LOAD, it HOLDS 9", train("e1000 il w29"), 0, -9);
        worstIs("odd LOAD, it HOLDS 9", train("e1000 il w39"), 0, -8);
        worstIs("SLACK", train("e1000 il s29"), 0, -7);
        worstIs("BRAKED, odd", train("e1000 il b29"), 0, -6);
        worstIs("RUSTY, COUPLING 1", train("e1000 il r11"), 0, 0);
        worstIs("RUSTY, COUPLING 9", train("e1000 il r19"), 0, -4);
        worstIs("the most there is", train("e1000 il w19 w12 s11"), 2, 2);
        worstIs("the second", train("e1000 il w39 s44 w13 h91"), 1, -1);
        worstIs("the last", train("e1000 il w29 w29 w28"), 2, -8);
        worstIs("LOAD 0", train("e1000 il p15"), 0, -5);
        due.leaves("worst()", Scenes::busy, WheelsSlip::worst);
    }

    @Says("as if it was the next one to be TAKEN UP")
    static void promise23WhetherTakenUpOrNot() {
        worstIs("none TAKEN UP", train("e9900 id s34 w29 w99"), 0, -1);
        worstIs("one TAKEN UP", train("e9900 id s34 w29 w99", 2), 0, -1);
        worstIs("the BRAKE ON", train("e9900 id b29 w19"), 0, -6);
        worstIs("the BRAKE OFF", train("e9900 id b29 w19", 13), 0, -7);
        worstIs("behind a BRAKED one, the BRAKE ON", train("e9900 id b29 w18"), 0, -6);
        worstIs("behind a BRAKED one, the BRAKE OFF", train("e9900 id b29 w18", 13), 0, -7);
        worstIs("the sixth", train("e9900 id p19 p19 p19 p19 p19 s19"), 5, -6);
        worstIs("lost ones are none", Scenes.made(Scenes::torn), 0, -3);
        worstIs("busy", Scenes.made(Scenes::busy), 0, -3);
    }

    @Says("by the least STEAM of 0 .. 9 that is enough (if there is such)")
    static void promise23LeastSteamOf0To9() {
        worstIs("18 is enough, 19 is not", train("e1000 il h95 w11"), 0, -5);
        worstIs("the second of three", train("e1000 il w99 w95 s11"), 1, -5);
        worstIs("LOAD 18 and 20", train("e1000 il h99 w21 s11"), 0, -9);
    }

    @Says("the WAGON of which that is most (the first); that, and 100 more, by asked().")
    static void promise23TheFirstOfAlikeOnes() {
        worstIs("all alike", train("e1000 il w25 w25 w25"), 0, -5);
        worstIs("the last two", train("e1000 il w26 w25 w25"), 1, -5);
        worstIs("by two ways", train("e1000 il w29 s27 w25"), 1, -5);
        worstIs("less behind", train("e1000 il w25 w26 w25"), 0, -5);
    }

    @Says("NONE: there is no such.")
    static void promise23None() {
        due.none("without a TRAIN", Scenes::trainless, WheelsSlip::worst);
        due.none("without WAGONS", Scenes.busyAnd(Scenes.train("e9900 id")), WheelsSlip::worst);
        due.none("none is enough", Scenes.busyAnd(Scenes.train("e9901 id h99 w11")), WheelsSlip::worst);
        due.none("all are lost", Scenes.busyAnd(Scenes.train("e9900 id w11", 13, 9)), WheelsSlip::worst);
    }
}
