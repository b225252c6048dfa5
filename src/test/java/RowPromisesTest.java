import java.util.Arrays;

/** Promises 1 to 7, sentence by sentence: a new object, rows. */
public final class RowPromisesTest {
    private static final Sentences due = new Sentences(RowPromisesTest.class);
    private static final int LEAST = Integer.MIN_VALUE;
    private static final int MOST = Integer.MAX_VALUE;

    public static void main(String[] args) throws IllegalAccessException {
        due.hold();
    }

    private static Scenes.Scene row(int r, int... places) {
        return x -> Make.row(x, r, places);
    }

    private static void placesAre(WheelsSlip x, int r, int... places) {
        for (int i = 0; i < places.length; i++) {
            due.tells("at(" + r + ", " + i + ")", x, x.at(r, i), 1, places[i]);
        }
        due.is("at(" + r + ", " + places.length + "), no more", x.at(r, places.length), WheelsSlip.FINDING);
    }

    @Says("No ROWS, TEXTS, TRAIN.")
    static void promise01NoRows() {
        due.is("count(5)", new WheelsSlip().count(5), 0);
        for (int k = 0; k < 6; k++) {
            int r = k;
            due.finds("lay", Scenes::fresh, x -> x.lay(r, 0, 1), Make.NOTHING);
            due.finds("at", Scenes::fresh, x -> x.at(r, 0), Make.NOTHING);
            due.finds("tear", Scenes::fresh, x -> x.tear(r), Make.NOTHING);
            due.finds("copy", Scenes::fresh, x -> x.copy(r, 0, r, 0, 0), Make.NOTHING);
            due.finds("mean", Scenes::fresh, x -> x.mean(r), Make.NOTHING);
            due.finds("weights", Scenes::fresh, x -> x.weights(r), Make.NOTHING);
            due.finds("lies", Scenes::fresh, x -> x.lies(r, 1), Make.NOTHING);
        }
    }

    @Says("No ROWS, TEXTS, TRAIN.")
    static void promise01NoTexts() {
        due.is("count(6)", new WheelsSlip().count(6), 0);
        for (int k = 0; k < 4; k++) {
            int t = k;
            due.finds("put", Scenes::fresh, x -> x.put(t, 0, 1), Make.NOTHING);
            due.finds("fault", Scenes::fresh, x -> x.fault(t), Make.NOTHING);
            due.finds("train", Scenes::fresh, x -> x.train(t), Make.NOTHING);
        }
    }

    @Says("No ROWS, TEXTS, TRAIN.")
    static void promise01NoTrain() {
        for (int k = 0; k < 15; k++) {
            int thing = k;
            due.state("go(" + thing + ")", Scenes::fresh, x -> x.go(thing));
        }
        for (int k = 0; k < 10; k++) {
            int v = k;
            due.state("engine(" + v + ")", Scenes::fresh, x -> x.engine(v));
            due.state("would(" + v + ")", Scenes::fresh, x -> x.would(v));
        }
        for (int k = 0; k < 3; k++) {
            int place = k;
            due.state("keep(" + place + ")", Scenes::fresh, x -> x.keep(place));
            due.finds("on(" + place + ")", Scenes::fresh, x -> x.on(place), Make.NOTHING);
        }
        due.state("grip()", Scenes::fresh, WheelsSlip::grip);
        due.state("steam()", Scenes::fresh, WheelsSlip::steam);
        due.state("bad()", Scenes::fresh, WheelsSlip::bad);
        due.state("run(0)", Scenes::fresh, x -> x.run(0));
        due.state("shortest(4, 0)", Scenes::fresh, x -> x.shortest(4, 0));
        due.state("ways(4)", Scenes::fresh, x -> x.ways(4));
        due.state("stay(4)", Scenes::fresh, x -> x.stay(4));
        due.state("odds(0, 4, 4)", Scenes::fresh, x -> x.odds(0, 4, 4));
        due.state("lots(1, 1)", Scenes::fresh, x -> x.lots(1, 1));
        due.none("worst()", Scenes::fresh, WheelsSlip::worst);
        due.bad("wagon(0, 0)", Scenes::fresh, x -> x.wagon(0, 0));
        due.bad("mark(0, 1)", Scenes::fresh, x -> x.mark(0, 1));
        due.bad("load(1)", Scenes::fresh, x -> x.load(1));
        due.bad("undo(1)", Scenes::fresh, x -> x.undo(1));
        due.is("undo(0)", new WheelsSlip().undo(0), 0);
        due.is("load(0)", new WheelsSlip().load(0), 0);
        for (int what = 0; what < 8; what++) {
            due.is("count(" + what + ")", new WheelsSlip().count(what), 0);
        }
    }

    @Says("No ROWS, TEXTS, TRAIN.")
    static void promise01ObjectsShareNothing() {
        WheelsSlip x = Scenes.made(Scenes::busy);
        WheelsSlip other = new WheelsSlip();
        for (int what = 0; what < 8; what++) {
            due.is("count(" + what + ") of another one", other.count(what), 0);
        }
        due.is("asked() of another one", other.asked(), 0);
        due.is("finding() of another one", other.finding(), 0);
        due.is("lower() of another one", other.lower(), 1);
        long digest = x.digest();
        Scenes.made(Scenes::torn);
        due.is("digest() behind another one's calls", x.digest(), digest);
    }

    @Says("A ROW is there with n ints 0: n.")
    static void promise02RowIsThereWithNNoughts() {
        int[] sizes = {0, 1, 2, 39, 40};
        for (int r = 0; r < 6; r++) {
            for (int n : sizes) {
                WheelsSlip x = new WheelsSlip();
                due.is("row(" + r + ", " + n + ")", x.row(r, n), n);
                due.is("ROWS", x.count(5), 1);
                placesAre(x, r, new int[n]);
            }
        }
    }

    @Says("A ROW is there with n ints 0: n.")
    static void promise02RowAnew() {
        WheelsSlip x = Scenes.made(row(3, 7, 8, 9));
        due.is("longer", x.row(3, 5), 5);
        placesAre(x, 3, 0, 0, 0, 0, 0);
        x = Scenes.made(row(3, 7, 8, 9));
        due.is("shorter", x.row(3, 2), 2);
        placesAre(x, 3, 0, 0);
        due.is("longer again", x.row(3, 3), 3);
        placesAre(x, 3, 0, 0, 0);
        due.is("of none", x.row(3, 0), 0);
        placesAre(x, 3);
        due.is("there still", x.count(5), 1);
        x.tear(3);
        due.is("torn, anew", x.row(3, 1), 1);
        placesAre(x, 3, 0);
    }

    @Says("BAD: also n above 40;")
    static void promise02BadNAbove40() {
        due.is("40 is well", Scenes.made(Scenes::busy).row(0, 40), 40);
        due.badAbove("row(0) of", 40, Scenes::busy, (x, n) -> x.row(0, n));
        due.badAbove("row(5), missing, of", 40, Scenes::busy, (x, n) -> x.row(5, n));
    }

    @Says("BAD: also n above 40;")
    static void promise02BadRow() {
        due.badOutside("row of 1:", 0, 5, (x, r) -> x.row(r, 1));
        due.badOutside("row of 41:", 0, 5, (x, r) -> x.row(r, 41));
        due.badOutside("row of -1, BAD ahead of SIZE:", 0, 5, (x, r) -> x.row(r, -1));
    }

    @Says("SIZE: below 0.")
    static void promise02SizeBelow0() {
        due.is("0 is well", Scenes.made(Scenes::busy).row(0, 0), 0);
        due.finds("row(0, -1)", x -> x.row(0, -1), Make.SIZE);
        due.finds("row(5, -1), missing", x -> x.row(5, -1), Make.SIZE);
        due.finds("row(0, least)", x -> x.row(0, LEAST), Make.SIZE);
    }

    @Says("Place i of a ROW is v: what it was, told by asked(): 1.")
    static void promise03LaysAndTellsWhatWas() {
        WheelsSlip x = Scenes.made(row(1, 5, 6, 7));
        due.tells("the first", x, x.lay(1, 0, LEAST), 1, 5);
        due.tells("the last", x, x.lay(1, 2, MOST), 1, 7);
        placesAre(x, 1, LEAST, 6, MOST);
        due.tells("again", x, x.lay(1, 0, 0), 1, LEAST);
        due.tells("the same", x, x.lay(1, 2, MOST), 1, MOST);
        placesAre(x, 1, 0, 6, MOST);
        x.row(1, 40);
        due.tells("place 39 of 40", x, x.lay(1, 39, -5), 1, 0);
        due.tells("place 39 then", x, x.at(1, 39), 1, -5);
        due.tells("place 38", x, x.at(1, 38), 1, 0);
    }

    @Says("BAD; NOTHING; BEYOND.")
    static void promise03Bad() {
        due.badOutside("lay", 0, 5, (x, r) -> x.lay(r, 0, 1));
        due.badOutside("lay, BAD ahead of BEYOND", 0, 5, (x, r) -> x.lay(r, -1, 1));
    }

    @Says("BAD; NOTHING; BEYOND.")
    static void promise03Nothing() {
        due.finds("lay(5, 0, 1)", x -> x.lay(5, 0, 1), Make.NOTHING);
        due.finds("lay(5, -1, 1), NOTHING ahead of BEYOND", x -> x.lay(5, -1, 1), Make.NOTHING);
        due.finds("lay(5, 40, 1), NOTHING ahead of BEYOND", x -> x.lay(5, 40, 1), Make.NOTHING);
    }

    @Says("BAD; NOTHING; BEYOND.")
    static void promise03Beyond() {
        int[] places = {-1, 2, 3, 40, LEAST, MOST};
        for (int i : places) {
            due.finds("lay(0, " + i + ", 1)", x -> x.lay(0, i, 1), Make.BEYOND);
        }
        due.finds("lay(2, 0, 1), empty", x -> x.lay(2, 0, 1), Make.BEYOND);
        due.finds("lay(0, 40, 1) of 40", Scenes.busyAnd(x -> x.row(0, 40)), x -> x.lay(0, 40, 1), Make.BEYOND);
        due.finds("lay(0, 1, 1), it was longer", Scenes.busyAnd(x -> x.row(0, 1)), x -> x.lay(0, 1, 1), Make.BEYOND);
    }

    @Says("Place i of a ROW, told by asked(): 1.")
    static void promise04TellsAPlace() {
        WheelsSlip x = Scenes.made(row(4, LEAST, -1, 0, 1, MOST));
        placesAre(x, 4, LEAST, -1, 0, 1, MOST);
        due.leaves("at(1, 0)", Scenes::busy, y -> y.at(1, 0));
        due.leaves("at(1, 8)", Scenes::busy, y -> y.at(1, 8));
    }

    @Says("BAD; NOTHING; BEYOND.")
    static void promise04Bad() {
        due.badOutside("at", 0, 5, (x, r) -> x.at(r, 0));
        due.badOutside("at, BAD ahead of BEYOND", 0, 5, (x, r) -> x.at(r, 99));
    }

    @Says("BAD; NOTHING; BEYOND.")
    static void promise04Nothing() {
        due.finds("at(5, 0)", x -> x.at(5, 0), Make.NOTHING);
        due.finds("at(5, -1), NOTHING ahead of BEYOND", x -> x.at(5, -1), Make.NOTHING);
    }

    @Says("BAD; NOTHING; BEYOND.")
    static void promise04Beyond() {
        int[] places = {-1, 2, 3, 40, LEAST, MOST};
        for (int i : places) {
            due.finds("at(0, " + i + ")", x -> x.at(0, i), Make.BEYOND);
        }
        due.finds("at(2, 0), empty", x -> x.at(2, 0), Make.BEYOND);
        due.finds("at(0, 40) of 40", Scenes.busyAnd(x -> x.row(0, 40)), x -> x.at(0, 40), Make.BEYOND);
        due.finds("at(0, 1), it was longer", Scenes.busyAnd(x -> x.row(0, 1)), x -> x.at(0, 1), Make.BEYOND);
    }

    @Says("A ROW is missing: 1.")
    static void promise05RowIsMissing() {
        for (int r = 0; r < 5; r++) {
            WheelsSlip x = Scenes.made(Scenes::busy);
            due.is("tear(" + r + ")", x.tear(r), 1);
            due.is("ROWS", x.count(5), 4);
            due.finds("at(" + r + ", 0)", x, x.at(r, 0), Make.NOTHING);
            for (int other = 0; other < 5; other++) {
                if (other != r) {
                    due.holds("ROW " + other + " stays", x.row(other, 0) == 0 && x.count(5) == 4);
                }
            }
        }
        WheelsSlip x = Scenes.made(Scenes::busy);
        x.tear(0);
        placesAre(x, 4, 7, 7);
        due.is("asked() stays at what at() told", x.asked(), 7);
    }

    @Says("BAD; NOTHING.")
    static void promise05Bad() {
        due.badOutside("tear", 0, 5, WheelsSlip::tear);
    }

    @Says("BAD; NOTHING.")
    static void promise05Nothing() {
        due.finds("tear(5)", x -> x.tear(5), Make.NOTHING);
        due.finds("tear(0) twice", Scenes.busyAnd(x -> x.tear(0)), x -> x.tear(0), Make.NOTHING);
        due.is("an empty one is there", Scenes.made(Scenes::busy).tear(2), 1);
    }

    @Says("n places of a ROW, from one on, come to those of another one")
    static void promise06CopiesToAnother() {
        WheelsSlip x = new WheelsSlip();
        Make.row(x, 0, 1, 2, 3, 4);
        Make.row(x, 5, 9, 8, 7);
        due.is("copy(0, 1, 5, 0, 2)", x.copy(0, 1, 5, 0, 2), 1);
        placesAre(x, 5, 2, 3, 7);
        placesAre(x, 0, 1, 2, 3, 4);
        due.is("to the end of both", x.copy(0, 3, 5, 2, 1), 1);
        placesAre(x, 5, 2, 3, 4);
        due.is("the whole", x.copy(5, 0, 0, 0, 3), 1);
        placesAre(x, 0, 2, 3, 4, 4);
        int told = x.asked();
        x.copy(0, 0, 5, 0, 1);
        due.is("asked() is not told", x.asked(), told);
        int[] forty = new int[40];
        for (int i = 0; i < 40; i++) {
            forty[i] = i + 1;
        }
        x = new WheelsSlip();
        Make.row(x, 1, forty);
        x.row(2, 40);
        due.is("40 places", x.copy(1, 0, 2, 0, 40), 1);
        placesAre(x, 2, forty);
    }

    @Says("(perhaps itself) from one on, as if taken ahead: 1.")
    static void promise06CopiesToItselfAsIfTakenAhead() {
        WheelsSlip x = Scenes.made(row(3, 1, 2, 3, 4, 5));
        due.is("backwards", x.copy(3, 1, 3, 0, 4), 1);
        placesAre(x, 3, 2, 3, 4, 5, 5);
        x = Scenes.made(row(3, 1, 2, 3, 4, 5));
        due.is("onwards", x.copy(3, 0, 3, 1, 4), 1);
        placesAre(x, 3, 1, 1, 2, 3, 4);
        due.is("on the same", x.copy(3, 0, 3, 0, 5), 1);
        placesAre(x, 3, 1, 1, 2, 3, 4);
        x = Scenes.made(row(3, 1, 2, 3, 4, 5));
        due.is("far onwards", x.copy(3, 0, 3, 3, 2), 1);
        placesAre(x, 3, 1, 2, 3, 1, 2);
    }

    @Says("BAD; SIZE: n below 0; NOTHING: either; BEYOND: not so many there")
    static void promise06Bad() {
        due.badOutside("copy from", 0, 5, (x, r) -> x.copy(r, 0, 1, 0, 1));
        due.badOutside("copy to", 0, 5, (x, to) -> x.copy(1, 0, to, 0, 1));
        due.badOutside("copy of 0 from", 0, 5, (x, r) -> x.copy(r, 0, 1, 0, 0));
        due.badOutside("copy of 0 to", 0, 5, (x, to) -> x.copy(1, 0, to, 0, 0));
    }

    @Says("SIZE: n below 0;")
    static void promise06SizeNBelow0() {
        due.finds("n -1", x -> x.copy(0, 0, 1, 0, -1), Make.SIZE);
        due.finds("n the least", x -> x.copy(0, 0, 1, 0, LEAST), Make.SIZE);
        due.finds("n -1 at 1: 0 places behind it", x -> x.copy(0, 1, 1, 1, -1), Make.SIZE);
        due.is("n 0 is well", Scenes.made(Scenes::busy).copy(0, 0, 1, 0, 0), 1);
    }

    @Says("NOTHING: either;")
    static void promise06NothingEither() {
        due.finds("from", x -> x.copy(5, 0, 0, 0, 0), Make.NOTHING);
        due.finds("to", x -> x.copy(0, 0, 5, 0, 0), Make.NOTHING);
        due.finds("both", x -> x.copy(5, 0, 5, 0, 1), Make.NOTHING);
    }

    @Says("BEYOND: not so many there")
    static void promise06BeyondNotSoMany() {
        due.is("from 8 of 9", Scenes.made(Scenes::busy).copy(1, 8, 0, 0, 1), 1);
        due.finds("from 9 of 9", x -> x.copy(1, 9, 0, 0, 1), Make.BEYOND);
        due.is("to 8 of 9", Scenes.made(Scenes::busy).copy(0, 0, 1, 8, 1), 1);
        due.finds("to 9 of 9", x -> x.copy(0, 0, 1, 9, 1), Make.BEYOND);
        due.finds("from 1 of 2, two", x -> x.copy(0, 1, 1, 0, 2), Make.BEYOND);
        due.finds("to 1 of 2, two", x -> x.copy(1, 0, 0, 1, 2), Make.BEYOND);
        due.finds("from -1", x -> x.copy(0, -1, 1, 0, 1), Make.BEYOND);
        due.finds("to -1", x -> x.copy(0, 0, 1, -1, 1), Make.BEYOND);
        due.finds("more than all", x -> x.copy(1, 0, 3, 0, 10), Make.BEYOND);
        due.finds("more than fit", x -> x.copy(3, 0, 1, 0, 10), Make.BEYOND);
        due.finds("n the most", x -> x.copy(0, 0, 1, 0, MOST), Make.BEYOND);
        due.finds("n the most from 1: more than an int", x -> x.copy(0, 1, 1, 1, MOST), Make.BEYOND);
        due.finds("from the most", x -> x.copy(0, MOST, 1, 0, 1), Make.BEYOND);
        due.finds("to the most", x -> x.copy(0, 0, 1, MOST, 1), Make.BEYOND);
        due.finds("from the least", x -> x.copy(0, LEAST, 1, 0, MOST), Make.BEYOND);
        due.finds("to the least", x -> x.copy(0, 0, 1, LEAST, MOST), Make.BEYOND);
        due.finds("of an empty one", x -> x.copy(2, 0, 1, 0, 1), Make.BEYOND);
        due.finds("to an empty one", x -> x.copy(1, 0, 2, 0, 1), Make.BEYOND);
        due.finds("behind the end, it was longer", Scenes.busyAnd(x -> x.row(1, 3)), x -> x.copy(1, 2, 3, 0, 2), Make.BEYOND);
    }

    @Says("(also with n 0, if i, j is below 0, or above its size).")
    static void promise06BeyondWithN0() {
        due.is("i at the size", Scenes.made(Scenes::busy).copy(0, 2, 1, 0, 0), 1);
        due.is("j at the size", Scenes.made(Scenes::busy).copy(0, 0, 1, 9, 0), 1);
        due.is("both empty", Scenes.made(Scenes::busy).copy(2, 0, 2, 0, 0), 1);
        due.finds("i above the size", x -> x.copy(0, 3, 1, 0, 0), Make.BEYOND);
        due.finds("j above the size", x -> x.copy(0, 0, 1, 10, 0), Make.BEYOND);
        due.finds("i above an empty one", x -> x.copy(2, 1, 1, 0, 0), Make.BEYOND);
        due.finds("j above an empty one", x -> x.copy(1, 0, 2, 1, 0), Make.BEYOND);
        due.finds("i -1", x -> x.copy(0, -1, 1, 0, 0), Make.BEYOND);
        due.finds("j -1", x -> x.copy(0, 0, 1, -1, 0), Make.BEYOND);
        due.finds("i the least", x -> x.copy(0, LEAST, 1, 0, 0), Make.BEYOND);
        due.finds("j the most", x -> x.copy(0, 0, 1, MOST, 0), Make.BEYOND);
        due.leaves("n 0", Scenes::busy, x -> x.copy(0, 1, 1, 1, 0));
    }

    @Says("(In this order.)")
    static void promise06Order() {
        due.badOutside("BAD ahead of SIZE, from", 0, 5, (x, r) -> x.copy(r, 0, 0, 0, -1));
        due.badOutside("BAD ahead of SIZE, to", 0, 5, (x, to) -> x.copy(0, 0, to, 0, -1));
        due.badOutside("BAD ahead of NOTHING, from", 0, 5, (x, r) -> x.copy(r, 0, 5, 0, 1));
        due.badOutside("BAD ahead of NOTHING, to", 0, 5, (x, to) -> x.copy(5, 0, to, 0, 1));
        due.finds("SIZE ahead of NOTHING, from", x -> x.copy(5, 0, 0, 0, -1), Make.SIZE);
        due.finds("SIZE ahead of NOTHING, to", x -> x.copy(0, 0, 5, 0, -1), Make.SIZE);
        due.finds("SIZE ahead of BEYOND", x -> x.copy(0, -1, 0, 99, -1), Make.SIZE);
        due.finds("NOTHING ahead of BEYOND, from", x -> x.copy(5, 0, 0, 99, 1), Make.NOTHING);
        due.finds("NOTHING ahead of BEYOND, to", x -> x.copy(0, -1, 5, 0, 1), Make.NOTHING);
    }

    private static void meanIs(int mean, int... places) {
        WheelsSlip x = Scenes.made(row(2, places));
        due.tells("mean of " + Arrays.toString(places), x, x.mean(2), 1, mean);
    }

    @Says("The mean of a ROW's ints, cut, told by asked(): 1.")
    static void promise07MeanCut() {
        meanIs(5, 5);
        meanIs(0, 0, 1);
        meanIs(1, 1, 2);
        meanIs(1, 1, 2, 2);
        meanIs(2, 2, 2, 2);
        meanIs(0, 1, -1);
        meanIs(0, 0, -1);
        meanIs(-1, -1, -2);
        meanIs(-3, -3, -4, -4);
        meanIs(0, 1, 0, 0, 0, 0, 0, 0, 0);
        due.leaves("mean(1)", Scenes::busy, x -> x.mean(1));
    }

    @Says("The mean of a ROW's ints, cut, told by asked(): 1.")
    static void promise07MeanOfManyGreatOnes() {
        int[] most = new int[40];
        int[] least = new int[40];
        Arrays.fill(most, MOST);
        Arrays.fill(least, LEAST);
        meanIs(MOST, most);
        meanIs(LEAST, least);
        meanIs(MOST, MOST, MOST);
        meanIs(0, MOST, LEAST);
        meanIs(-1, LEAST, MOST, -1, -1, -2);
        meanIs(0, LEAST, MOST, -1, -1, -1);
        most[39] = MOST - 1;
        meanIs(MOST - 1, most);
        least[39] = LEAST + 1;
        meanIs(LEAST + 1, least);
    }

    @Says("BAD; NOTHING; NOUGHT.")
    static void promise07Bad() {
        due.badOutside("mean", 0, 5, WheelsSlip::mean);
    }

    @Says("BAD; NOTHING; NOUGHT.")
    static void promise07Nothing() {
        due.finds("mean(5)", x -> x.mean(5), Make.NOTHING);
        due.finds("mean(0), torn", Scenes.busyAnd(x -> x.tear(0)), x -> x.mean(0), Make.NOTHING);
    }

    @Says("BAD; NOTHING; NOUGHT.")
    static void promise07Nought() {
        due.finds("mean(2), empty", x -> x.mean(2), Make.NOUGHT);
        due.finds("mean(0), emptied", Scenes.busyAnd(x -> x.row(0, 0)), x -> x.mean(0), Make.NOUGHT);
        WheelsSlip x = Scenes.made(row(0, 0));
        due.tells("one nought is not none", x, x.mean(0), 1, 0);
    }
}
