import java.util.ArrayList;
import java.util.List;

/** Promises 34 to 40, sentence by sentence: what is told. */
public final class ToldPromisesTest {
    private static final Sentences due = new Sentences(ToldPromisesTest.class);
    private static final int LEAST = Integer.MIN_VALUE;
    private static final int MOST = Integer.MAX_VALUE;

    public static void main(String[] args) throws IllegalAccessException {
        due.hold();
    }

    private static WheelsSlip train(String signs, int... things) {
        return Scenes.made(Scenes.train(signs, things));
    }

    private static void tells(String what, Sentences.Call call, long answer, int told) {
        WheelsSlip x = Scenes.made(Scenes::busy);
        x.at(4, 0);
        due.is("told ahead", x.asked(), 7);
        due.tells(what, x, call.on(x), answer, told);
        due.is(what + ": asked() again", x.asked(), told);
    }

    @Says("What the latest lay(), at(), mean(), wagon(), engine(), grip(), steam(), worst(), run(), ways(), bad(), lies(), "
        + "trial() that was not refused (nor NONE, but as told) told;")
    static void promise34WhatEachTold() {
        tells("lay(0, 1, 3)", x -> x.lay(0, 1, 3), 1, 5);
        tells("at(3, 2)", x -> x.at(3, 2), 1, MOST);
        tells("mean(0)", x -> x.mean(0), 1, 8);
        tells("wagon(2, 3)", x -> x.wagon(2, 3), 1, 9);
        tells("engine(8)", x -> x.engine(8), 1, 10);
        tells("grip()", WheelsSlip::grip, 14, 14);
        tells("steam()", WheelsSlip::steam, 7, 4);
        tells("worst()", WheelsSlip::worst, 0, 97);
        tells("run(0)", x -> x.run(0), 0, 3);
        tells("ways(1)", x -> x.ways(1), 3, 3);
        tells("bad()", WheelsSlip::bad, 11, 8);
        tells("lies(1, 1)", x -> x.lies(1, 1), 1, 1);
        tells("trial(1022, 0)", x -> x.trial(1022, 0), 7, 5);
    }

    @Says("(nor NONE, but as told)")
    static void promise34NoneButAsTold() {
        tells("steam() tells NONE", x -> {
            Scenes.train("e9003 id h99 w11").set(x);
            x.at(4, 0);
            return x.steam();
        }, 9, Make.NONE);
        tells("lies(1, 2) tells NONE", x -> x.lies(1, 2), 0, Make.NONE);
        tells("worst() is NONE", x -> {
            Scenes.train("e9003 id h99 w11").set(x);
            x.at(4, 0);
            return x.worst();
        }, Make.NONE, 7);
    }

    private static void tellsNothing(String what, Sentences.Call call) {
        WheelsSlip x = Scenes.made(Scenes::busy);
        x.at(4, 0);
        call.on(x);
        due.is("asked() behind " + what, x.asked(), 7);
    }

    @Says("What the latest lay(), at(), mean(), wagon(), engine(), grip(), steam(), worst(), run(), ways(), bad(), lies(), "
        + "trial() that was not refused")
    static void promise34OtherCallsTellNothing() {
        tellsNothing("row", x -> x.row(5, 3));
        tellsNothing("tear", x -> x.tear(0));
        tellsNothing("copy", x -> x.copy(0, 0, 1, 0, 1));
        tellsNothing("text", x -> x.text(3, 3));
        tellsNothing("put", x -> x.put(1, 0, 3));
        tellsNothing("fault", x -> x.fault(1));
        tellsNothing("train", x -> x.train(0));
        tellsNothing("mark", x -> x.mark(2, 5));
        tellsNothing("go", x -> x.go(4));
        tellsNothing("undo", x -> x.undo(3));
        tellsNothing("keep", x -> x.keep(2));
        tellsNothing("on", x -> x.on(0));
        tellsNothing("load", x -> x.load(2));
        tellsNothing("would", x -> x.would(4));
        tellsNothing("shortest", x -> x.shortest(4, 5));
        tellsNothing("stay", x -> x.stay(4));
        tellsNothing("odds", x -> x.odds(0, 4, 4));
        tellsNothing("weights", x -> x.weights(1));
        tellsNothing("lots", x -> x.lots(4, 4));
        tellsNothing("asked", WheelsSlip::asked);
        tellsNothing("upper", WheelsSlip::upper);
        tellsNothing("lower", WheelsSlip::lower);
        tellsNothing("count", x -> x.count(3));
        tellsNothing("finding", WheelsSlip::finding);
        tellsNothing("findings", x -> x.findings(3));
        tellsNothing("digest", WheelsSlip::digest);
    }

    @Says("that was not refused")
    static void promise34RefusedOnesTellNothing() {
        tellsNothing("lay refused", x -> x.lay(0, 2, 1));
        tellsNothing("at refused", x -> x.at(5, 0));
        tellsNothing("mean refused", x -> x.mean(2));
        tellsNothing("wagon refused", x -> x.wagon(3, 0));
        tellsNothing("engine refused", x -> x.engine(10));
        tellsNothing("run refused", x -> x.run(3));
        tellsNothing("ways refused", x -> x.ways(5));
        tellsNothing("lies refused", x -> x.lies(1, 0));
        tellsNothing("lies refused by SIZE", x -> x.lies(4, 1));
        tellsNothing("trial refused", x -> x.trial(0, 0));
        WheelsSlip x = Scenes.made(Scenes::trainless);
        x.at(4, 0);
        due.is("grip() refused", x.grip(), Make.STATE);
        due.is("steam() refused", x.steam(), Make.STATE);
        due.is("bad() refused", x.bad(), Make.STATE);
        due.is("engine(0) refused", x.engine(0), Make.STATE);
        due.is("worst() is NONE", x.worst(), Make.NONE);
        due.is("asked()", x.asked(), 7);
    }

    @Says("0 before.")
    static void promise34NoughtBefore() {
        WheelsSlip x = new WheelsSlip();
        due.is("asked() of a new object", x.asked(), 0);
        x.at(0, 0);
        x.wagon(0, 0);
        x.grip();
        x.worst();
        due.is("asked() behind refused ones", x.asked(), 0);
        due.is("asked() of a TRAIN", train("e9900 id w99", 1).asked(), 0);
    }

    @Says("The upper number of the chances that were told last; 0 before.")
    static void promise35Upper() {
        WheelsSlip x = new WheelsSlip();
        due.is("before", x.upper(), 0);
        x.odds(0, 4, 4);
        due.is("behind a refused one", x.upper(), 0);
        x = Scenes.made(Scenes::busy);
        due.is("told", x.upper(), 3);
        x.odds(0, 13, 0);
        x.odds(5, 4, 4);
        x.odds(3, 4, 4);
        due.is("behind refused ones", x.upper(), 3);
        x.odds(0, 7, 4);
        due.is("told last", x.upper(), 11);
        x.train(0);
        due.is("it stays with another TRAIN", x.upper(), 11);
        x.odds(2, 4, 4);
        due.is("none", x.upper(), 0);
    }

    @Says("Its lower number; 1 before.")
    static void promise36Lower() {
        WheelsSlip x = new WheelsSlip();
        due.is("before", x.lower(), 1);
        x.odds(0, 4, 4);
        due.is("behind a refused one", x.lower(), 1);
        x = Scenes.made(Scenes::busy);
        due.is("told", x.lower(), 4);
        x.odds(0, 13, 0);
        x.odds(5, 4, 4);
        x.odds(3, 4, 4);
        due.is("behind refused ones", x.lower(), 4);
        x.odds(0, 7, 4);
        due.is("told last", x.lower(), 12);
        x.train(0);
        due.is("it stays with another TRAIN", x.lower(), 12);
        x.odds(2, 4, 4);
        due.is("of none", x.lower(), 1);
    }

    private static void countsAre(String what, WheelsSlip x, int... counts) {
        for (int k = 0; k < counts.length; k++) {
            due.is(what + ": count(" + k + ")", x.count(k), counts[k]);
        }
    }

    @Says("0 WAGONS (that are not lost), 1 RAILS, 2 DEEDS, 3 LOAD of all, 4 HEAVY ones (RUSTY, too), 5 ROWS, 6 TEXTS that are "
        + "there, 7 kept TRAINS.")
    static void promise37Counts() {
        countsAre("new", new WheelsSlip(), 0, 0, 0, 0, 0, 0, 0, 0);
        countsAre("without a TRAIN", Scenes.made(Scenes::trainless), 0, 0, 0, 0, 0, 5, 3, 0);
        countsAre("busy", Scenes.made(Scenes::busy), 3, 3, 10, 8, 1, 5, 3, 2);
        countsAre("torn", Scenes.made(Scenes::torn), 1, 3, 16, 3, 0, 5, 3, 2);
        countsAre("full", Scenes.made(Scenes::full), 3, 3, 60, 8, 1, 5, 3, 2);
        countsAre("the most of all", Scenes.made(x -> {
            for (int r = 0; r < 6; r++) {
                x.row(r, r);
            }
            x.text(1, 0);
            x.text(2, 60);
            x.text(3, 1);
            Scenes.train("e9903 idwlddl h91r91h91r91h91r91").set(x);
            x.keep(0);
            x.keep(1);
            x.keep(2);
        }), 6, 6, 0, 126, 6, 6, 4, 3);
        due.leaves("count(3)", Scenes::busy, x -> x.count(3));
    }

    @Says("3 LOAD of all, 4 HEAVY ones (RUSTY, too)")
    static void promise37LoadAndHeavyOnes() {
        WheelsSlip x = train("e9990 id w19 h19 s19 p39 r19 b19");
        due.is("LOAD", x.count(3), 1 + 2 + 1 + 1 + 2 + 4);
        due.is("HEAVY", x.count(4), 2);
        Make.go(x, 13, 1, 2);
        due.is("LOAD, the BRAKE OFF", x.count(3), 8);
        due.is("it TEARS", x.go(7), 3);
        due.is("WAGONS", x.count(0), 2);
        due.is("LOAD of those left", x.count(3), 3);
        due.is("HEAVY ones left", x.count(4), 1);
        x = train("e9990 id w29 r11 h11", 1);
        due.is("it TEARS", x.go(8), 3);
        due.is("HEAVY ones, all lost", x.count(4), 0);
    }

    @Says("5 ROWS, 6 TEXTS that are there, 7 kept TRAINS.")
    static void promise37RowsTextsKept() {
        WheelsSlip x = Scenes.made(Scenes::busy);
        x.tear(0);
        due.is("a ROW torn", x.count(5), 4);
        x.row(0, 0);
        x.row(0, 5);
        due.is("there again", x.count(5), 5);
        x.text(0, 0);
        due.is("a TEXT anew", x.count(6), 3);
        x.text(3, 0);
        due.is("one more", x.count(6), 4);
        x.keep(0);
        due.is("kept anew", x.count(7), 2);
        x.keep(2);
        due.is("one more", x.count(7), 3);
        x.on(1);
        due.is("gone on from", x.count(7), 3);
    }

    @Says("BAD.")
    static void promise37Bad() {
        due.badOutside("count", 0, 7, WheelsSlip::count);
        due.badOutside("count of a new object", 0, 7, Scenes::fresh, WheelsSlip::count);
    }

    @Says("The latest FINDING (0 before any).")
    static void promise38TheLatestFinding() {
        WheelsSlip x = new WheelsSlip();
        due.is("before any", x.finding(), 0);
        x.row(6, 0);
        x.grip();
        x.worst();
        due.is("behind BAD, STATE, NONE", x.finding(), 0);
        x.tear(0);
        due.is("NOTHING", x.finding(), Make.NOTHING);
        x.row(0, 0);
        due.is("an answer leaves it", x.finding(), Make.NOTHING);
        x.at(0, 0);
        due.is("BEYOND", x.finding(), Make.BEYOND);
        x.mean(0);
        due.is("NOUGHT", x.finding(), Make.NOUGHT);
        x.row(0, -1);
        due.is("SIZE", x.finding(), Make.SIZE);
        Make.row(x, 0, 3, 0, 0);
        x.weights(0);
        due.is("UNLIKE", x.finding(), Make.UNLIKE);
        x.lay(0, 3, 0);
        due.is("BEYOND again", x.finding(), Make.BEYOND);
        x.count(9);
        due.is("BAD leaves it", x.finding(), Make.BEYOND);
        Scenes.train("e1000 id").set(x);
        due.is("a TRAIN leaves it", x.finding(), Make.BEYOND);
    }

    @Says("How often a FINDING (1 .. 5) was answered.")
    static void promise39HowOften() {
        WheelsSlip x = new WheelsSlip();
        for (int f = 1; f <= 5; f++) {
            due.is("at first, findings(" + f + ")", x.findings(f), 0);
        }
        x.row(0, 0);
        Make.row(x, 1, 3, 0, 0);
        for (int i = 0; i < 11; i++) {
            x.tear(5);
            if (i < 7) {
                x.at(0, 0);
            }
            if (i < 5) {
                x.lies(1, 1);
            }
            if (i < 3) {
                x.mean(0);
            }
            if (i < 2) {
                x.text(0, -1);
            }
        }
        int[] often = {11, 7, 5, 3, 2};
        for (int f = 1; f <= 5; f++) {
            due.is("findings(" + f + ")", x.findings(f), often[f - 1]);
        }
        due.is("finding() is the latest", x.finding(), Make.NOTHING);
        for (int i = 11; i < 300; i++) {
            x.tear(5);
        }
        due.is("300 times", x.findings(1), 300);
    }

    @Says("BAD.")
    static void promise39Bad() {
        due.badOutside("findings", 1, 5, WheelsSlip::findings);
        due.badOutside("findings of a new object", 1, 5, Scenes::fresh, WheelsSlip::findings);
    }

    private static long hashed(List<Integer> all) {
        long h = 17;
        for (int v : all) {
            h = 31 * h + v;
        }
        return h;
    }

    private static void add(List<Integer> all, int... more) {
        for (int v : more) {
            all.add(v);
        }
    }

    private static void addText(List<Integer> all, String signs) {
        all.add(signs.length());
        for (int i = 0; i < signs.length(); i++) {
            all.add((int) signs.charAt(i));
        }
    }

    private static void addRowsAndTexts(List<Integer> all) {
        add(all, 2, 11, 5);
        add(all, 9, 0, 5, 1, 1, 2, 0, 2, 3, 1);
        add(all, 0);
        add(all, 13, 15, -1, MOST, LEAST, 7, 0, 0, 0, 0, 0, 0, 0, 1);
        add(all, 2, 7, 7);
        add(all, -1);
        addText(all, Scenes.BUSY_TRAIN);
        addText(all, "e6831 i");
        add(all, 0, -1);
    }

    @Says("h = 17; then h = 31 h + v for each v (of a call that tells by asked(): what it tells, not the 1 that it answers; "
        + "asked() stays): count() 0 to 7; engine() 0 to 9 (if there is a TRAIN); of each WAGON wagon() 0 to 5; of each kept "
        + "TRAIN how many DEEDS (-1: missing); of each ROW its size (-1: missing) and places, of each TEXT likewise.")
    static void promise40DigestOfAll() {
        List<Integer> all = new ArrayList<>();
        add(all, 3, 3, 10, 8, 1, 5, 3, 2);
        add(all, 6, 6, 1, 1, 1, 1, 0, 3, 10, 1);
        add(all, 0, 2, 3, 4, 0, 1);
        add(all, 1, 1, 3, 5, 0, 1);
        add(all, 5, 1, 2, 9, 2, 1);
        add(all, 4, 7, -1);
        addRowsAndTexts(all);
        WheelsSlip x = Scenes.made(Scenes::busy);
        due.is("digest()", x.digest(), hashed(all));
        due.is("asked() stays", x.asked(), Scenes.BUSY_ASKED);
        due.leaves("digest()", Scenes::busy, WheelsSlip::digest);
    }

    @Says("engine() 0 to 9 (if there is a TRAIN)")
    static void promise40DigestWithoutATrain() {
        List<Integer> all = new ArrayList<>();
        add(all, 0, 0, 0, 0, 0, 5, 3, 0, -1, -1, -1);
        addRowsAndTexts(all);
        due.is("digest()", Scenes.made(Scenes::trainless).digest(), hashed(all));
    }

    @Says({"(-1: missing)", "(-1: missing) and places, of each TEXT likewise."})
    static void promise40DigestOfNothing() {
        List<Integer> all = new ArrayList<>();
        add(all, 0, 0, 0, 0, 0, 0, 0, 0, -1, -1, -1, -1, -1, -1, -1, -1, -1, -1, -1, -1, -1);
        due.is("digest()", new WheelsSlip().digest(), hashed(all));
    }

    @Says("of each WAGON wagon() 0 to 5; of each kept TRAIN how many DEEDS (-1: missing);")
    static void promise40DigestLostOnesAreNone() {
        List<Integer> all = new ArrayList<>();
        add(all, 1, 3, 16, 3, 0, 5, 3, 2);
        add(all, 6, 8, 2, 1, 1, 0, 0, 1, 16, 1);
        add(all, 0, 2, 3, 4, 0, 1);
        add(all, 4, 7, -1);
        addRowsAndTexts(all);
        due.is("digest()", Scenes.made(Scenes::torn).digest(), hashed(all));
    }

    @Says("of each ROW its size (-1: missing) and places, of each TEXT likewise.")
    static void promise40DigestOfPlacesAndBytes() {
        WheelsSlip x = Scenes.made(Scenes::busy);
        long was = x.digest();
        x.put(1, 6, -128);
        long with = x.digest();
        // Two more numbers come behind it: the sizes of TEXTS 2 and 3.
        due.is("a byte below 0 counts as it is", with - was, 31 * 31 * (-128 - 'i'));
        due.is("and as it is cut", Scenes.made(Scenes.busyAnd(y -> y.put(1, 6, 128))).digest(), with);
        x = Scenes.made(Scenes::busy);
        x.text(3, 1);
        x.put(3, 0, 0);
        due.holds("one of a nought is none that is missing", x.digest() != was);
        x = Scenes.made(Scenes.busyAnd(y -> y.row(5, 0)));
        due.holds("an empty one is none that is missing", x.digest() != was);
        x = Scenes.made(Scenes.busyAnd(y -> y.keep(0)));
        due.holds("another kept one", x.digest() != was);
    }
}
