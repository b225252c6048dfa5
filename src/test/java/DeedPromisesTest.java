/** Promises 15 to 18, sentence by sentence: THINGS done, undone, kept, gone on from. */
public final class DeedPromisesTest {
    private static final Sentences due = new Sentences(DeedPromisesTest.class);

    public static void main(String[] args) throws IllegalAccessException {
        due.hold();
    }

    private static WheelsSlip train(String signs, int... things) {
        return Scenes.made(Scenes.train(signs, things));
    }

    @Says("A THING is done: 0 nothing came of it, 1 it SLIPPED, 2 a WAGON was TAKEN UP, 3 it TORE, 4 it is further GONE, "
        + "5 it ROLLED BACK, 6 another THING (10 .. 14) was done.")
    static void promise15GoTellsWhatCame() {
        due.is("nothing", train("e9900 id w29 w29").go(0), 0);
        due.is("it SLIPPED", train("e1900 il w29 w29").go(1), 1);
        due.is("TAKEN UP", train("e9900 id w29 w29").go(1), 2);
        due.is("it TORE", train("e9900 id w11 w29").go(9), 3);
        due.is("GONE", train("e9900 id", 13).go(0), 4);
        due.is("ROLLED BACK", train("e9900 id w29 w29", 1, 13).go(0), 5);
        for (int thing = 10; thing <= 14; thing++) {
            due.is("go(" + thing + ")", train("e9910 id").go(thing), 6);
        }
        WheelsSlip x = Scenes.made(Scenes::busy);
        x.go(12);
        due.is("asked() is not told", x.asked(), Scenes.BUSY_ASKED);
        due.is("a DEED more", x.count(2), Scenes.BUSY_DEEDS + 1);
    }

    @Says("BAD; STATE: no TRAIN, or it can't be")
    static void promise15Bad() {
        due.badOutside("go", 0, 14, WheelsSlip::go);
        due.badOutside("go without a TRAIN, BAD ahead of STATE", 0, 14, Scenes::trainless, WheelsSlip::go);
    }

    @Says("STATE: no TRAIN, or it can't be")
    static void promise15StateNoTrain() {
        for (int k = 0; k < 15; k++) {
            int thing = k;
            due.state("go(" + thing + ")", Scenes::trainless, x -> x.go(thing));
        }
    }

    @Says("(more STEAM than there is, no SAND, no BRAKE);")
    static void promise15StateItCantBe() {
        due.is("6 of 6 STEAM", Scenes.made(Scenes::busy).go(6), 4);
        due.state("7 of 6 STEAM", Scenes::busy, x -> x.go(7));
        due.state("9 of 6 STEAM", Scenes::busy, x -> x.go(9));
        due.state("1 of no STEAM", Scenes.train("e9000 id w99"), x -> x.go(1));
        due.is("0 of no STEAM", train("e9000 id w99").go(0), 0);
        due.is("the last SAND", Scenes.made(Scenes::busy).go(10), 6);
        due.state("no SAND", Scenes.busyAnd(x -> x.go(10)), x -> x.go(10));
        due.state("no BRAKE", Scenes::torn, x -> x.go(14));
        due.is("13 can be without a BRAKE", Scenes.made(Scenes::torn).go(13), 6);
    }

    @Says("FULL: 60 DEEDS.")
    static void promise15Full() {
        due.is("the 60th", Scenes.made(Scenes.busyAnd(x -> {
            for (int i = Scenes.BUSY_DEEDS; i < 59; i++) {
                x.go(12);
            }
        })).go(12), 6);
        int[] things = {0, 1, 6, 10, 11, 12, 13, 14};
        for (int thing : things) {
            due.full("go(" + thing + ")", Scenes::full, x -> x.go(thing));
        }
        WheelsSlip x = Scenes.made(Scenes::full);
        due.is("undo(59)", x.undo(59), 1);
        due.is("one more", x.go(11), 6);
    }

    @Says("(FULL last.)")
    static void promise15FullLast() {
        due.badOutside("BAD ahead of FULL: go", 0, 14, Scenes::full, WheelsSlip::go);
        due.state("STATE ahead of FULL: 7 of 6 STEAM", Scenes::full, x -> x.go(7));
        Scenes.Scene noSand = x -> {
            Scenes.train("e9000 id").set(x);
            for (int i = 0; i < 60; i++) {
                x.go(12);
            }
        };
        due.state("STATE ahead of FULL: no SAND", noSand, x -> x.go(10));
        Scenes.Scene noBrake = x -> {
            Scenes.torn(x);
            for (int i = x.count(2); i < 60; i++) {
                x.go(12);
            }
        };
        due.state("STATE ahead of FULL: no BRAKE", noBrake, x -> x.go(14));
    }

    @Says("DEEDS from number n on (n 0 to how many there are: then 0) are undone: how many.")
    static void promise16UndoneFromNOn() {
        int[] things = {10, 2, 5, 3, 13, 11, 4, 4, 11, 10};
        for (int n = 0; n <= things.length; n++) {
            WheelsSlip x = Scenes.made(Scenes::busy);
            WheelsSlip ahead = Scenes.made(Scenes::busy);
            due.is("undo(" + n + ")", x.undo(n), things.length - n);
            due.is("DEEDS", x.count(2), n);
            ahead.train(0);
            Make.go(ahead, 10, 2, 5, 3);
            ahead.keep(0);
            Make.go(ahead, 13, 11, 4);
            ahead.keep(1);
            ahead.undo(0);
            for (int i = 0; i < n; i++) {
                ahead.go(things[i]);
            }
            due.is("as if no more had been done", x.digest(), ahead.digest());
            due.is("the rest can be done again", x.undo(n), 0);
            for (int i = n; i < things.length; i++) {
                x.go(things[i]);
            }
            due.is("and then it is as it was", x.digest(), Scenes.made(Scenes::busy).digest());
        }
    }

    @Says("(n 0 to how many there are: then 0)")
    static void promise16UndoneNone() {
        due.leaves("undo(10)", Scenes::busy, x -> x.undo(10));
        due.is("undo(10)", Scenes.made(Scenes::busy).undo(10), 0);
        due.is("undo(0) of none", train("e9900 id").undo(0), 0);
        due.is("undo(0) without a TRAIN", Scenes.made(Scenes::trainless).undo(0), 0);
        due.is("undo(60) of 60", Scenes.made(Scenes::full).undo(60), 0);
        due.is("undo(0) of 60", Scenes.made(Scenes::full).undo(0), 60);
        WheelsSlip x = Scenes.made(Scenes::busy);
        x.undo(4);
        due.is("asked() is not told", x.asked(), Scenes.BUSY_ASKED);
    }

    @Says("are undone: how many.")
    static void promise16UndoneWhatWasTornIsThereAgain() {
        WheelsSlip x = train("e9900 id b29 w21 w29", 3, 8);
        due.is("it TORE", x.count(0), 1);
        due.is("undo(1)", x.undo(1), 1);
        due.is("WAGONS", x.count(0), 3);
        due.is("the BRAKE is ON", Make.engine(x, 6), 1);
        due.is("and not lost", x.go(14), 6);
        due.is("LOAD", x.load(3), 9);
    }

    @Says("BAD.")
    static void promise16Bad() {
        due.badOutside("undo", 0, 10, WheelsSlip::undo);
        due.badOutside("undo of none", 0, 0, Scenes.train("e9900 id"), WheelsSlip::undo);
        due.badOutside("undo of 60", 0, 60, Scenes::full, WheelsSlip::undo);
        due.badOutside("undo without a TRAIN", 0, 0, Scenes::trainless, WheelsSlip::undo);
        due.badOutside("undo of what is undone", 0, 4, Scenes.busyAnd(x -> x.undo(4)), WheelsSlip::undo);
    }

    @Says("The TRAIN (as it is, DEEDS) is kept in a place (0 .. 2): how many DEEDS.")
    static void promise17KeptInAPlace() {
        for (int k = 0; k < 3; k++) {
            WheelsSlip x = Scenes.made(Scenes::busy);
            long digest = x.digest();
            due.is("keep(" + k + ")", x.keep(k), 10);
            due.is("kept TRAINS", x.count(7), k == 2 ? 3 : 2);
            due.is("asked() is not told", x.asked(), Scenes.BUSY_ASKED);
            due.is("DEEDS stay", x.count(2), 10);
            x.undo(0);
            due.is("on(" + k + ")", x.on(k), 10);
            due.is("as it was", Make.engine(x, 9), 1);
            due.holds("a kept one is in digest()", x.digest() != digest);
        }
        WheelsSlip x = train("e9900 id");
        due.is("of no DEEDS", x.keep(0), 0);
        due.is("it is kept", x.count(7), 1);
        x = Scenes.made(Scenes::full);
        due.is("of 60", x.keep(2), 60);
        x.undo(0);
        due.is("60 again", x.on(2), 60);
    }

    @Says("is kept in a place (0 .. 2)")
    static void promise17KeptAnew() {
        WheelsSlip x = Scenes.made(Scenes::busy);
        due.is("keep(0) over another", x.keep(0), 10);
        due.is("kept TRAINS", x.count(7), 2);
        due.is("on(1) is not changed", x.on(1), 7);
        due.is("on(0) is", x.on(0), 10);
    }

    @Says("BAD; STATE: no TRAIN.")
    static void promise17Bad() {
        due.badOutside("keep", 0, 2, WheelsSlip::keep);
        due.badOutside("keep without a TRAIN, BAD ahead of STATE", 0, 2, Scenes::trainless, WheelsSlip::keep);
    }

    @Says("STATE: no TRAIN.")
    static void promise17State() {
        for (int k = 0; k < 3; k++) {
            int place = k;
            due.state("keep(" + place + ")", Scenes::trainless, x -> x.keep(place));
        }
    }

    @Says("The TRAIN is as it was kept: how many DEEDS.")
    static void promise18AsItWasKept() {
        Scenes.Scene kept = x -> {
            Scenes.torn(x);
            x.keep(2);
        };
        WheelsSlip x = Scenes.made(kept);
        WheelsSlip twin = Scenes.made(kept);
        x.undo(0);
        Make.go(x, 12, 11, 1, 13, 1);
        due.is("on(2)", x.on(2), 16);
        due.is("as it was", x.digest(), twin.digest());
        due.is("the BRAKE is lost", x.go(14), Make.STATE);
        due.is("on(0)", x.on(0), 4);
        due.is("TAKEN UP", Make.engine(x, 7), 2);
        due.is("WAGONS", x.count(0), 3);
        due.is("the BRAKE is not lost", x.go(14), 6);
        due.is("on(1)", x.on(1), 7);
        due.is("MINUTE", Make.engine(x, 8), 7);
        due.is("kept still", x.count(7), 3);
        due.is("on(1) again", x.on(1), 7);
    }

    @Says("The TRAIN is as it was kept: how many DEEDS.")
    static void promise18GoneOnFrom() {
        WheelsSlip x = Scenes.made(Scenes::busy);
        due.is("on(0)", x.on(0), 4);
        due.is("its DEEDS can be undone", x.undo(1), 3);
        due.is("on(0) is as it was kept", x.on(0), 4);
        due.is("it goes on", x.go(13), 6);
        due.is("DEEDS", x.count(2), 5);
        due.is("on(0) is as it was kept still", x.on(0), 4);
        int told = x.asked();
        x.on(1);
        due.is("asked() is not told", x.asked(), told);
        x = Scenes.made(Scenes::full);
        due.is("from 60 to 4", x.on(0), 4);
        due.is("then there is room", x.go(12), 6);
        x = train("e9900 id", 13);
        x.undo(0);
        x.keep(1);
        Make.go(x, 13, 0);
        due.is("one of no DEEDS", x.on(1), 0);
        due.is("GONE", Make.engine(x, 9), 0);
    }

    @Says("BAD; NOTHING.")
    static void promise18Bad() {
        due.badOutside("on", 0, 2, WheelsSlip::on);
        due.badOutside("on without a TRAIN", 0, 2, Scenes::trainless, WheelsSlip::on);
    }

    @Says("BAD; NOTHING.")
    static void promise18Nothing() {
        due.finds("on(2)", x -> x.on(2), Make.NOTHING);
        for (int k = 0; k < 3; k++) {
            int place = k;
            due.finds("on(" + place + ") without a TRAIN", Scenes::trainless, x -> x.on(place), Make.NOTHING);
            due.finds("on(" + place + "), gone with a TRAIN anew", Scenes.busyAnd(x -> x.train(0)), x -> x.on(place),
                Make.NOTHING);
        }
    }
}
