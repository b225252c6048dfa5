/** Promises 8 to 14, sentence by sentence: texts, trains, wagons, the engine. */
public final class TextPromisesTest {
    private static final Sentences due = new Sentences(TextPromisesTest.class);
    private static final int LEAST = Integer.MIN_VALUE;
    private static final int MOST = Integer.MAX_VALUE;
    private static final String ALL_KINDS = "e9992 id w34 h35 s36 p13 r37 b38";

    public static void main(String[] args) throws IllegalAccessException {
        due.hold();
    }

    private static WheelsSlip train(String signs, int... things) {
        return Scenes.made(Scenes.train(signs, things));
    }

    @Says("A TEXT is there with n blanks: n.")
    static void promise08TextIsThereWithNBlanks() {
        int[] sizes = {0, 1, 2, 59, 60};
        for (int t = 0; t < 4; t++) {
            for (int n : sizes) {
                WheelsSlip x = new WheelsSlip();
                due.is("text(" + t + ", " + n + ")", x.text(t, n), n);
                due.is("TEXTS", x.count(6), 1);
                due.is("blanks alone", x.fault(t), n);
                for (int i = 0; i < n; i++) {
                    due.is("a blank at " + i, x.put(t, i, 1), 1032);
                }
                due.is("no more", x.put(t, n, 1), WheelsSlip.FINDING);
            }
        }
    }

    @Says("A TEXT is there with n blanks: n.")
    static void promise08TextAnew() {
        WheelsSlip x = new WheelsSlip();
        Make.text(x, 1, "abc");
        due.is("longer", x.text(1, 4), 4);
        for (int i = 0; i < 4; i++) {
            due.is("a blank again", x.put(1, i, 65), 1032);
        }
        due.is("shorter", x.text(1, 2), 2);
        due.is("a blank again", x.put(1, 1, 65), 1032);
        due.finds("no more", x, x.put(1, 2, 65), Make.BEYOND);
        due.is("longer again", x.text(1, 3), 3);
        due.is("a blank again", x.put(1, 2, 65), 1032);
        due.is("of none", x.text(1, 0), 0);
        due.is("there still", x.count(6), 1);
        due.is("asked() is not told", x.asked(), 0);
    }

    @Says("BAD: also n above 60;")
    static void promise08BadNAbove60() {
        due.is("60 is well", Scenes.made(Scenes::busy).text(0, 60), 60);
        due.badAbove("text(0) of", 60, Scenes::busy, (x, n) -> x.text(0, n));
        due.badAbove("text(3), missing, of", 60, Scenes::busy, (x, n) -> x.text(3, n));
    }

    @Says("BAD: also n above 60;")
    static void promise08BadText() {
        due.badOutside("text of 1:", 0, 3, (x, t) -> x.text(t, 1));
        due.badOutside("text of 61:", 0, 3, (x, t) -> x.text(t, 61));
        due.badOutside("text of -1, BAD ahead of SIZE:", 0, 3, (x, t) -> x.text(t, -1));
    }

    @Says("SIZE: below 0.")
    static void promise08SizeBelow0() {
        due.is("0 is well", Scenes.made(Scenes::busy).text(0, 0), 0);
        due.finds("text(0, -1)", x -> x.text(0, -1), Make.SIZE);
        due.finds("text(3, -1), missing", x -> x.text(3, -1), Make.SIZE);
        due.finds("text(0, least)", x -> x.text(0, LEAST), Make.SIZE);
    }

    @Says("Byte i of a TEXT is v, cut to a byte (-128 .. 127): what it was, and 1000 more.")
    static void promise09PutsAndTellsWhatWas() {
        WheelsSlip x = new WheelsSlip();
        x.text(2, 60);
        due.is("the first", x.put(2, 0, 65), 1032);
        due.is("the last", x.put(2, 59, 66), 1032);
        due.is("the first then", x.put(2, 0, 67), 1065);
        due.is("the last then", x.put(2, 59, 68), 1066);
        due.is("the second is a blank still", x.put(2, 1, 69), 1032);
        due.is("asked() is not told", x.asked(), 0);
    }

    @Says("cut to a byte (-128 .. 127):")
    static void promise09CutToAByte() {
        int[] put = {127, 128, 129, 255, 256, 257, 383, 384, -1, -128, -129, -130, -256, -257, 65536 + 101, MOST, LEAST};
        int[] was = {127, -128, -127, -1, 0, 1, 127, -128, -1, -128, 127, 126, 0, -1, 101, -1, 0};
        WheelsSlip x = new WheelsSlip();
        x.text(0, 1);
        for (int i = 0; i < put.length; i++) {
            x.put(0, 0, put[i]);
            due.is("put(0, 0, " + put[i] + "), then", x.put(0, 0, 7), 1000 + was[i]);
        }
        Make.text(x, 1, "e1000id");
        x.put(1, 0, 101 + 256);
        x.put(1, 6, 100 - 512);
        due.is("read as the byte that it is", x.fault(1), Make.NONE);
    }

    @Says("BAD; NOTHING; BEYOND.")
    static void promise09Bad() {
        due.badOutside("put", 0, 3, (x, t) -> x.put(t, 0, 1));
        due.badOutside("put, BAD ahead of BEYOND", 0, 3, (x, t) -> x.put(t, 60, 1));
    }

    @Says("BAD; NOTHING; BEYOND.")
    static void promise09Nothing() {
        due.finds("put(3, 0, 1)", x -> x.put(3, 0, 1), Make.NOTHING);
        due.finds("put(3, -1, 1), NOTHING ahead of BEYOND", x -> x.put(3, -1, 1), Make.NOTHING);
    }

    @Says("BAD; NOTHING; BEYOND.")
    static void promise09Beyond() {
        int[] places = {-1, 7, 8, 60, LEAST, MOST};
        for (int i : places) {
            due.finds("put(1, " + i + ", 1)", x -> x.put(1, i, 1), Make.BEYOND);
        }
        due.finds("put(2, 0, 1), empty", x -> x.put(2, 0, 1), Make.BEYOND);
        due.finds("put(2, 60, 1) of 60", Scenes.busyAnd(x -> x.text(2, 60)), x -> x.put(2, 60, 1), Make.BEYOND);
        due.finds("put(1, 3, 1), it was longer", Scenes.busyAnd(x -> x.text(1, 3)), x -> x.put(1, 3, 1), Make.BEYOND);
    }

    @Says("A FAULT of a TEXT;")
    static void promise10Fault() {
        WheelsSlip x = Scenes.made(Scenes::busy);
        due.is("fault(1)", x.fault(1), 7);
        due.is("fault(2), of none", x.fault(2), 0);
        due.is("asked() is not told", x.asked(), Scenes.BUSY_ASKED);
        due.leaves("fault(1)", Scenes::busy, y -> y.fault(1));
        due.leaves("fault(2)", Scenes::trainless, y -> y.fault(2));
        x.put(0, 10, 'x');
        due.is("fault(0) then", x.fault(0), 10);
        x.put(0, 0, 'x');
        due.is("fault(0), the first", x.fault(0), 0);
        x.text(0, 60);
        due.is("fault(0), 60 blanks", x.fault(0), 60);
    }

    @Says("NONE: there is none.")
    static void promise10None() {
        due.none("fault(0)", Scenes::busy, x -> x.fault(0));
        due.none("fault(0) without a TRAIN", Scenes::trainless, x -> x.fault(0));
    }

    @Says("BAD; NOTHING.")
    static void promise10BadNothing() {
        due.badOutside("fault", 0, 3, WheelsSlip::fault);
        due.finds("fault(3)", x -> x.fault(3), Make.NOTHING);
    }

    @Says("A TRAIN by a TEXT (anew: MINUTE 0, no DEEDS; kept TRAINS go): how many WAGONS.")
    static void promise11TrainByAText() {
        for (int n = 0; n <= 6; n++) {
            WheelsSlip x = new WheelsSlip();
            Make.text(x, 3, "e4321 idw" + " w11".repeat(n));
            due.is("train(3)", x.train(3), n);
            due.is("WAGONS", x.count(0), n);
            due.is("RAILS", x.count(1), 2);
            due.is("WEIGHT", Make.engine(x, 0), 4);
            due.is("STEAM", Make.engine(x, 1), 3);
            due.is("SAND", Make.engine(x, 2), 2);
            due.is("HILL", Make.engine(x, 3), 1);
        }
        WheelsSlip x = train("e9990 id w11");
        int told = x.asked();
        x.train(0);
        due.is("asked() is not told", x.asked(), told);
    }

    @Says("(anew: MINUTE 0, no DEEDS; kept TRAINS go)")
    static void promise11TrainAnew() {
        WheelsSlip x = Scenes.made(Scenes::torn);
        x.keep(2);
        due.is("kept", x.count(7), 3);
        due.is("train(0) anew", x.train(0), 3);
        due.is("MINUTE", Make.engine(x, 8), 0);
        due.is("DEEDS", x.count(2), 0);
        due.is("STEAM", Make.engine(x, 1), 8);
        due.is("SAND", Make.engine(x, 2), 3);
        due.is("HOLLOW", Make.engine(x, 4), 0);
        due.is("SANDED", Make.engine(x, 5), 0);
        due.is("the BRAKE", Make.engine(x, 6), 1);
        due.is("TAKEN UP", Make.engine(x, 7), 0);
        due.is("GONE", Make.engine(x, 9), 0);
        due.is("kept TRAINS", x.count(7), 0);
        for (int k = 0; k < 3; k++) {
            due.finds("on(" + k + ")", x, x.on(k), Make.NOTHING);
        }
        due.is("undo(1)", x.undo(1), Make.BAD);
        due.is("the BRAKE is not lost", x.go(14), 6);
    }

    @Says("A TRAIN by a TEXT")
    static void promise11TrainIsNoMoreBoundToItsText() {
        WheelsSlip x = train("e4321 idw w11 h22", 1);
        x.text(0, 3);
        due.is("WAGONS", x.count(0), 2);
        x.undo(0);
        due.is("STEAM", Make.engine(x, 1), 3);
        due.is("TONS", Make.wagon(x, 1, 1), 2);
        Make.text(x, 1, "e1 il w99 w99 w99");
        due.is("fault(1) leaves it", x.fault(1), 2);
        due.is("train(1), a FAULT, leaves it", x.train(1), Make.STATE);
        due.is("WEIGHT", Make.engine(x, 0), 4);
        due.is("RAILS", x.count(1), 2);
        Make.text(x, 1, "e1110 il w99 w99 w99");
        due.is("fault(1), none, leaves it", x.fault(1), Make.NONE);
        due.is("WAGONS", x.count(0), 2);
        due.is("RAILS", x.count(1), 2);
        due.is("WEIGHT", Make.engine(x, 0), 4);
        due.is("train(1)", x.train(1), 3);
    }

    @Says("BAD; NOTHING; STATE: a FAULT.")
    static void promise11Bad() {
        due.badOutside("train", 0, 3, WheelsSlip::train);
    }

    @Says("BAD; NOTHING; STATE: a FAULT.")
    static void promise11Nothing() {
        due.finds("train(3)", x -> x.train(3), Make.NOTHING);
        due.finds("train(3) without a TRAIN", Scenes::trainless, x -> x.train(3), Make.NOTHING);
    }

    @Says("STATE: a FAULT.")
    static void promise11StateAFault() {
        due.state("train(1)", Scenes::busy, x -> x.train(1));
        due.state("train(2), of none", Scenes::busy, x -> x.train(2));
        due.state("train(1) without a TRAIN", Scenes::trainless, x -> x.train(1));
        due.state("train(2), 60 blanks", Scenes.busyAnd(x -> x.text(2, 60)), x -> x.train(2));
        due.state("train(3), a FAULT at its end", Scenes.busyAnd(x -> Make.text(x, 3, "e1000id w1")), x -> x.train(3));
        due.state("train(3), a seventh WAGON", Scenes.busyAnd(x -> Make.text(x, 3, "e1000id w11w11w11w11w11w11w11")),
            x -> x.train(3));
    }

    @Says("(STATE behind NOTHING.)")
    static void promise11StateBehindNothing() {
        due.finds("a missing one has no FAULT", Scenes::fresh, x -> x.train(0), Make.NOTHING);
        due.state("one of none has", Scenes::trainless, x -> x.train(2));
    }

    private static void wagonTells(WheelsSlip x, int i, int... facts) {
        for (int what = 0; what < facts.length; what++) {
            due.tells("wagon(" + i + ", " + what + ")", x, x.wagon(i, what), 1, facts[what]);
        }
    }

    @Says("0 the KIND, 1 TONS, 2 what it WEIGHS now, 3 what it HOLDS, 4 by how much it is SLACK, "
        + "5 whether it is TAKEN UP (1, 0), all told by asked(): 1.")
    static void promise12WagonTells() {
        WheelsSlip x = train(ALL_KINDS);
        wagonTells(x, 0, 0, 3, 5, 4, 0, 0);
        wagonTells(x, 1, 1, 3, 8, 5, 0, 0);
        wagonTells(x, 2, 2, 3, 5, 6, 2, 0);
        wagonTells(x, 3, 3, 1, 2, 3, 0, 0);
        wagonTells(x, 4, 4, 3, 8, 3, 0, 0);
        wagonTells(x, 5, 5, 3, 8, 8, 2, 0);
        for (int what = 0; what < 6; what++) {
            int asked = what;
            due.leaves("wagon(2, " + what + ")", Scenes::busy, y -> y.wagon(2, asked));
        }
    }

    @Says("2 what it WEIGHS now")
    static void promise12WagonWeighsNow() {
        WheelsSlip x = train(ALL_KINDS, 13);
        wagonTells(x, 5, 5, 3, 5);
        x.go(14);
        wagonTells(x, 5, 5, 3, 8);
        x.go(13);
        x.undo(2);
        wagonTells(x, 5, 5, 3, 8);
    }

    @Says("5 whether it is TAKEN UP (1, 0)")
    static void promise12WagonTakenUp() {
        WheelsSlip x = train("e9900 id w19 w19 w19", 13, 1, 1);
        int[] two = {1, 1, 0};
        for (int i = 0; i < 3; i++) {
            due.tells("wagon(" + i + ", 5)", x, x.wagon(i, 5), 1, two[i]);
        }
        x.go(2);
        due.tells("all", x, x.wagon(2, 5), 1, 1);
        x.go(12);
        for (int i = 0; i < 3; i++) {
            due.tells("none, wagon(" + i + ", 5)", x, x.wagon(i, 5), 1, 0);
        }
    }

    @Says({"Of a WAGON (lost ones are none):", "BAD."})
    static void promise12BadWagon() {
        due.badOutside("wagon", 0, 2, (x, i) -> x.wagon(i, 0));
        due.badOutside("wagon, what it HOLDS", 0, 2, (x, i) -> x.wagon(i, 3));
        due.badOutside("wagon, lost ones", 0, 0, Scenes::torn, (x, i) -> x.wagon(i, 0));
        due.badOutside("wagon, none lost but none left", 0, -1, Scenes.train("e9900 id w11", 13, 9), (x, i) -> x.wagon(i, 0));
        due.badOutside("wagon of none", 0, -1, Scenes.train("e9900 id"), (x, i) -> x.wagon(i, 0));
        due.badOutside("wagon without a TRAIN", 0, -1, Scenes::trainless, (x, i) -> x.wagon(i, 0));
        due.badOutside("wagon of six", 0, 5, Scenes.train(ALL_KINDS), (x, i) -> x.wagon(i, 0));
        WheelsSlip x = Scenes.made(Scenes::torn);
        x.undo(15);
        wagonTells(x, 2, 5, 1, 5, 9, 2, 0);
    }

    @Says("BAD.")
    static void promise12BadWhat() {
        due.badOutside("wagon(0) of", 0, 5, (x, what) -> x.wagon(0, what));
        due.badOutside("wagon(3), none, of", 0, 5, (x, what) -> x.wagon(3, what));
    }

    private static void marks(String signs, int i, int kind, int want, int... things) {
        due.is("mark(" + i + ", " + kind + ") of " + signs, train(signs, things).mark(i, kind), want);
    }

    @Says("What a WAGON that IS of a KIND tells: a HEAVY one (RUSTY, too) how much more it WEIGHS than a WAGON like it would")
    static void promise13HeavyHowMuchMore() {
        for (int tons = 1; tons <= 9; tons++) {
            for (int hill = 0; hill <= 3; hill += 3) {
                marks("e900" + hill + " id w11 h" + tons + "1", 1, 1, tons);
                marks("e900" + hill + " id r" + tons + "1 w11", 0, 1, tons);
                marks("e900" + hill + " id r" + tons + "1 w11", 0, 1, tons, 13);
            }
        }
    }

    @Says("a SLACK one (BRAKED, too) how many SLACK ones (BRAKED, too) are ahead of it")
    static void promise13SlackHowManyAhead() {
        String six = "e9000 id s11 b11 s11 b11 s11 b11";
        for (int i = 0; i < 6; i++) {
            marks(six, i, 2, i);
        }
        marks("e9000 id w11 h11 p11 r11 w11 s11", 5, 2, 0);
        marks("e9000 id w11 h11 p11 r11 w11 b11", 5, 2, 0);
        marks("e9000 id s11 h11 b11 r11 w11 s11", 2, 2, 1);
        marks("e9000 id s11 h11 b11 r11 w11 s11", 5, 2, 2);
        marks("e9000 id s11 w11 w11 b11 b11 s11", 0, 2, 0);
    }

    @Says("a PUSHED one the least STEAM that PULLS no less than it WEIGHS")
    static void promise13PushedLeastSteam() {
        int[] least = {0, 0, 1, 1, 2, 2, 3, 3, 4};
        for (int tons = 1; tons <= 9; tons++) {
            marks("e1000 il w99 p" + tons + "1", 1, 3, least[tons - 1]);
        }
        marks("e1001 il p11", 0, 3, 1);
        marks("e1001 il p91", 0, 3, 4);
        marks("e1002 il p21", 0, 3, 1);
        marks("e1003 il p21", 0, 3, 2);
        marks("e1003 il p91", 0, 3, 5);
        marks("e1003 il p91", 0, 3, 5, 13);
    }

    @Says("a RUSTY one by how much less it HOLDS than its COUPLING")
    static void promise13RustyHowMuchLess() {
        int[] less = {1, 1, 2, 2, 3, 3, 4, 4, 5};
        for (int coupling = 1; coupling <= 9; coupling++) {
            marks("e1003 il w11 r9" + coupling, 1, 4, less[coupling - 1]);
        }
    }

    @Says("a BRAKED one how many WAGONS are behind it.")
    static void promise13BrakedHowManyBehind() {
        String six = "e9000 id b11 b11 b11 b11 b11 b11";
        for (int i = 0; i < 6; i++) {
            marks(six, i, 5, 5 - i);
        }
        marks("e9000 id b11", 0, 5, 0);
        marks("e9900 id b19 p19 p11 w11", 0, 5, 3);
    }

    @Says("a BRAKED one how many WAGONS are behind it.")
    static void promise13BrakedLostOnesAreNone() {
        WheelsSlip x = train("e9900 id b19 p19 p11 w11", 2, 2);
        due.is("three behind", x.mark(0, 5), 3);
        due.is("it TEARS", x.go(7), 3);
        due.is("one behind", x.mark(0, 5), 1);
    }

    @Says("What a WAGON that IS of a KIND tells:")
    static void promise13LeavesAll() {
        due.leaves("mark(1, 1)", Scenes::busy, x -> x.mark(1, 1));
        due.leaves("mark(2, 2)", Scenes::busy, x -> x.mark(2, 2));
        due.leaves("mark(2, 5)", Scenes::busy, x -> x.mark(2, 5));
        WheelsSlip x = Scenes.made(Scenes::busy);
        x.mark(2, 5);
        due.is("asked() is not told", x.asked(), Scenes.BUSY_ASKED);
    }

    @Says("BAD: also KIND 0;")
    static void promise13BadKind() {
        due.badOutside("mark(0) of KIND", 1, 5, (x, kind) -> x.mark(0, kind));
        due.bad("mark(0, 0) of a WAGON", x -> x.mark(0, 0));
        due.bad("mark(1, 0) of a HEAVY one", x -> x.mark(1, 0));
    }

    @Says("BAD: also KIND 0;")
    static void promise13BadWagon() {
        for (int k = 1; k < 6; k++) {
            int kind = k;
            due.badOutside("mark of KIND " + kind + ":", 0, 2, (x, i) -> x.mark(i, kind));
            due.badOutside("mark, lost ones, of KIND " + kind + ":", 0, 0, Scenes::torn, (x, i) -> x.mark(i, kind));
            due.badOutside("mark without a TRAIN:", 0, -1, Scenes::trainless, (x, i) -> x.mark(i, kind));
        }
        due.badOutside("mark of six:", 0, 5, Scenes.train(ALL_KINDS), (x, i) -> x.mark(i, 5));
    }

    @Says("UNLIKE.")
    static void promise13Unlike() {
        Scenes.Scene six = Scenes.train(ALL_KINDS);
        int[][] like = {{}, {1}, {2}, {3}, {1, 4}, {2, 5}};
        for (int k = 1; k < 6; k++) {
            for (int w = 0; w < 6; w++) {
                int kind = k;
                int i = w;
                boolean is = false;
                for (int of : like[w]) {
                    is |= of == kind;
                }
                if (!is) {
                    due.finds("mark(" + i + ", " + kind + ")", six, x -> x.mark(i, kind), Make.UNLIKE);
                }
            }
        }
        due.finds("mark(0, 1)", x -> x.mark(0, 1), Make.UNLIKE);
    }

    @Says("Of the engine: 0 the WEIGHT, 1 STEAM, 2 SAND, 3 the HILL, 4 what is HOLLOW, 5 whether it is SANDED, "
        + "6 whether the BRAKE is ON (1, 0), 7 how many are TAKEN UP, 8 the MINUTE, 9 how much is GONE, "
        + "all told by asked(): 1.")
    static void promise14EngineTells() {
        WheelsSlip x = Scenes.made(Scenes::busy);
        int[] facts = {6, 6, 1, 1, 1, 1, 0, 3, 10, 1};
        for (int what = 0; what < 10; what++) {
            due.tells("engine(" + what + ")", x, x.engine(what), 1, facts[what]);
        }
        x = Scenes.made(Scenes::torn);
        int[] torn = {6, 8, 2, 1, 1, 0, 0, 1, 16, 1};
        for (int what = 0; what < 10; what++) {
            due.tells("torn: engine(" + what + ")", x, x.engine(what), 1, torn[what]);
        }
        x = train("e5873 ilw w11");
        int[] first = {5, 8, 7, 3, 0, 0, 1, 0, 0, 0};
        for (int what = 0; what < 10; what++) {
            due.tells("at first: engine(" + what + ")", x, x.engine(what), 1, first[what]);
            int asked = what;
            due.leaves("engine(" + what + ")", Scenes::busy, y -> y.engine(asked));
        }
    }

    @Says("BAD; STATE: no TRAIN.")
    static void promise14Bad() {
        due.badOutside("engine", 0, 9, WheelsSlip::engine);
        due.badOutside("engine without WAGONS", 0, 9, Scenes.train("e9900 id"), WheelsSlip::engine);
    }

    @Says("STATE: no TRAIN.")
    static void promise14State() {
        for (int k = 0; k < 10; k++) {
            int what = k;
            due.state("engine(" + what + ")", Scenes::trainless, x -> x.engine(what));
        }
    }

    @Says("(STATE ahead of BAD.)")
    static void promise14StateAheadOfBad() {
        int[] bad = {-1, 10, LEAST, MOST};
        for (int what : bad) {
            due.state("engine(" + what + ")", Scenes::trainless, x -> x.engine(what));
        }
    }
}
