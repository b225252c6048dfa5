/** Promises 29 to 33, sentence by sentence: chances, a book of tries, lots. */
public final class BookPromisesTest {
    private static final Sentences due = new Sentences(BookPromisesTest.class);
    private static final int LEAST = Integer.MIN_VALUE;
    private static final int MOST = Integer.MAX_VALUE;
    private static final int ALL = 1022;

    public static void main(String[] args) throws IllegalAccessException {
        due.hold();
    }

    private static WheelsSlip train(String signs, int... things) {
        return Scenes.made(Scenes.train(signs, things));
    }

    private static void oddsAre(String what, WheelsSlip x, int d, int w, long upper, long lower) {
        due.is(what + ": odds(5, " + d + ", " + w + ")", x.odds(5, d, w), 1);
        due.is(what + ": upper()", x.upper(), upper);
        due.is(what + ": lower()", x.lower(), lower);
    }

    private static WheelsSlip withPlan(WheelsSlip x, int... plan) {
        Make.row(x, 5, plan);
        return x;
    }

    @Says("Chances that a PLAN (6 THINGS at most) in a ROW STARTS")
    static void promise29PlanOf6AtMost() {
        WheelsSlip x = train("e1900 il p19 p19 p19 p19 p19", 13);
        // Each of the six has to grip: one that SLIPS is one too few.
        oddsAre("6 THINGS, each by 1 of 12", withPlan(x, 1, 1, 1, 1, 1, 1), 1, 0, 1, 2985984);
        oddsAre("6 THINGS, each by 11 of 12", x, 5, 6, 1771561, 2985984);
        oddsAre("6 THINGS, each by 6 of 12", x, 6, 0, 1, 64);
        oddsAre("6 THINGS, each by 12 of 12", x, 12, 0, 1, 1);
        oddsAre("6 THINGS, each by none", x, 0, 0, 0, 1);
        oddsAre("5 THINGS", withPlan(x, 1, 1, 1, 1, 1), 12, 0, 0, 1);
        oddsAre("no THINGS", withPlan(x), 12, 0, 0, 1);
        oddsAre("one THING", withPlan(train("e1900 il", 13), 1), 1, 0, 1, 12);
        for (int k = 7; k <= 40; k++) {
            int n = k;
            due.finds("odds of " + n, Scenes.busyAnd(y -> y.row(0, n)), y -> y.odds(0, 4, 4), Make.SIZE);
        }
    }

    @Says("if in each MINUTE the RAIL is dry by d, damp by w (0 .. 12, together 12 at most) of 12, else leaves, "
        + "whatever is told")
    static void promise29ByDAndW() {
        // 3 PULLS 6: on dry alone for a WEIGHT of 2; 2 PULLS 4: on damp, too; 1 PULLS 2: on all.
        for (int d = 0; d <= 12; d++) {
            for (int w = 0; w + d <= 12; w++) {
                String[] rails = {"d", "w", "l", "dwl"};
                for (String letters : rails) {
                    WheelsSlip x = train("e2900 i" + letters, 13);
                    int[] of = {12, 12, d + w, d};
                    for (int steam = 0; steam <= 3; steam++) {
                        withPlan(x, steam);
                        due.is("odds(5, " + d + ", " + w + ")", x.odds(5, d, w), 1);
                        due.is("chances of " + steam + " on " + letters, x.upper() * 12, of[steam] * x.lower());
                    }
                }
            }
        }
    }

    @Says("(0 .. 12, together 12 at most)")
    static void promise29BadDAndW() {
        due.badOutside("odds by d", 0, 12, (x, d) -> x.odds(0, d, 0));
        due.badOutside("odds by w", 0, 12, (x, w) -> x.odds(0, 0, w));
        for (int k = 0; k <= 12; k++) {
            int d = k;
            due.is("together 12", Scenes.made(Scenes::busy).odds(0, d, 12 - d), 1);
            due.bad("together 13: " + d, x -> x.odds(0, d, 13 - d));
            due.bad("12 and " + (d + 1), x -> x.odds(0, 12, d + 1));
            due.bad((d + 1) + " and 12", x -> x.odds(0, d + 1, 12));
        }
        due.bad("more than an int together", x -> x.odds(0, MOST, MOST));
        due.bad("the least and the most", x -> x.odds(0, LEAST, MOST));
        due.bad("13 and -1", x -> x.odds(0, 13, -1));
        due.bad("-1 and 13", x -> x.odds(0, -1, 13));
        due.bad("least and least: 0 together", x -> x.odds(0, LEAST, LEAST));
    }

    @Says("Chances that a PLAN (6 THINGS at most) in a ROW STARTS, if in each MINUTE")
    static void promise29InEachMinute() {
        oddsAre("2, then 3", withPlan(train("e2910 il", 13), 2, 3), 1, 2, 1, 4);
        // 3 goes on a dry one; if it SLIPS, 2 goes on a dry one still: 1/4 and 3/4 of 1/4.
        oddsAre("3, then 2", withPlan(train("e2910 il", 13), 3, 2), 3, 3, 7, 16);
        oddsAre("SANDED", withPlan(train("e2910 il", 13), 10, 3), 0, 12, 1, 1);
        oddsAre("it TEARS or is taken up", withPlan(train("e9900 il w89"), 13, 9, 11, 8), 3, 4, 49, 144);
        oddsAre("what can't be is passed over", withPlan(train("e2300 il", 13), 9, 10, 3), 5, 0, 5, 12);
        oddsAre("not more than was", withPlan(train("e9900 id", 13, 0), 14, 0), 12, 0, 0, 1);
        oddsAre("12 THINGS of a BRAKE", withPlan(train("e9900 id", 13), 14, 13, 12, 11, 13, 0), 1, 1, 1, 1);
    }

    @Says("told by upper(), lower(): 1.")
    static void promise29ToldByUpperAndLower() {
        due.leaves("odds(0, 4, 4)", Scenes::busy, x -> x.odds(0, 4, 4));
        due.leaves("odds(0, 12, 0)", Scenes::torn, x -> x.odds(0, 12, 0));
        WheelsSlip x = Scenes.made(Scenes::busy);
        due.is("told ahead: upper()", x.upper(), 3);
        due.is("told ahead: lower()", x.lower(), 4);
        x.odds(0, 1, 1);
        due.is("told: upper()", x.upper(), 1);
        due.is("told: lower()", x.lower(), 6);
        due.is("asked() is not told", x.asked(), Scenes.BUSY_ASKED);
    }

    @Says("BAD; STATE: no TRAIN; NOTHING; SIZE: more than 6; UNLIKE.")
    static void promise29BadRow() {
        due.badOutside("odds", 0, 5, (x, r) -> x.odds(r, 4, 4));
    }

    @Says("STATE: no TRAIN;")
    static void promise29State() {
        due.state("odds(0, 4, 4)", Scenes::trainless, x -> x.odds(0, 4, 4));
        due.state("odds(2, 0, 0)", Scenes::trainless, x -> x.odds(2, 0, 0));
    }

    @Says("NOTHING;")
    static void promise29Nothing() {
        due.finds("odds(5, 4, 4)", x -> x.odds(5, 4, 4), Make.NOTHING);
        due.finds("odds(0, 4, 4), torn", Scenes.busyAnd(x -> x.tear(0)), x -> x.odds(0, 4, 4), Make.NOTHING);
    }

    @Says("SIZE: more than 6;")
    static void promise29SizeMoreThan6() {
        due.is("6 is well", Scenes.made(Scenes.busyAnd(x -> x.row(0, 6))).odds(0, 4, 4), 1);
        due.finds("7", Scenes.busyAnd(x -> x.row(0, 7)), x -> x.odds(0, 4, 4), Make.SIZE);
        due.finds("12", Scenes.busyAnd(x -> x.row(0, 12)), x -> x.odds(0, 4, 4), Make.SIZE);
        due.finds("40", Scenes.busyAnd(x -> x.row(0, 40)), x -> x.odds(0, 4, 4), Make.SIZE);
    }

    @Says("UNLIKE.")
    static void promise29Unlike() {
        int[] none = {-1, 15, LEAST, MOST};
        for (int thing : none) {
            due.finds("the first", Scenes.busyAnd(x -> Make.row(x, 0, thing, 4)), x -> x.odds(0, 4, 4), Make.UNLIKE);
            due.finds("the sixth", Scenes.busyAnd(x -> Make.row(x, 0, 4, 4, 4, 4, 4, thing)), x -> x.odds(0, 4, 4),
                Make.UNLIKE);
        }
        due.is("14 is one", Scenes.made(Scenes.busyAnd(x -> Make.row(x, 0, 14, 0))).odds(0, 4, 4), 1);
    }

    @Says("(In this order.)")
    static void promise29Order() {
        due.badOutside("BAD ahead of STATE: odds", 0, 5, Scenes::fresh, (x, r) -> x.odds(r, 4, 4));
        due.bad("BAD ahead of STATE, together 13", Scenes::fresh, x -> x.odds(0, 6, 7));
        due.bad("BAD ahead of NOTHING", x -> x.odds(5, 6, 7));
        due.bad("BAD ahead of SIZE", x -> x.odds(3, 6, 7));
        due.state("STATE ahead of NOTHING", Scenes::trainless, x -> x.odds(5, 4, 4));
        due.state("STATE ahead of SIZE, UNLIKE", Scenes::trainless, x -> x.odds(3, 4, 4));
        due.finds("SIZE ahead of UNLIKE", x -> x.odds(3, 4, 4), Make.SIZE);
        due.finds("SIZE ahead of UNLIKE, the last", Scenes.busyAnd(x -> {
            x.row(0, 7);
            x.lay(0, 6, -1);
        }), x -> x.odds(0, 4, 4), Make.SIZE);
    }

    private static int weightsOf(int... book) {
        WheelsSlip x = new WheelsSlip();
        Make.row(x, 0, book);
        return x.weights(0);
    }

    private static boolean slips(int weight, int rail, int steam) {
        return 2 * steam > weight * (3 - rail);
    }

    @Says("A book in a ROW of threes (a RAIL 0 dry, 1 damp, 2 leaves; STEAM 0 .. 9; 1 it SLIPPED, 0 not): "
        + "which WEIGHTS (bits 1 .. 9) an engine without SAND, HOLLOWS can have.")
    static void promise30WeightsByATry() {
        for (int rail = 0; rail < 3; rail++) {
            for (int steam = 0; steam <= 9; steam++) {
                int set = 0;
                for (int weight = 1; weight <= 9; weight++) {
                    set |= slips(weight, rail, steam) ? 1 << weight : 0;
                }
                due.is("it SLIPPED on " + rail + " by " + steam, weightsOf(rail, steam, 1), set);
                due.is("it did not on " + rail + " by " + steam, weightsOf(rail, steam, 0), ALL - set);
            }
        }
    }

    @Says("which WEIGHTS (bits 1 .. 9) an engine without SAND, HOLLOWS can have.")
    static void promise30WeightsByABook() {
        due.is("two tries", weightsOf(0, 5, 1, 1, 2, 0), 4 + 8);
        due.is("one another twice", weightsOf(0, 5, 1, 0, 5, 1), 2 + 4 + 8);
        due.is("none can", weightsOf(0, 5, 1, 0, 5, 0), 0);
        due.is("none is so heavy", weightsOf(2, 9, 0), 512 - 512);
        due.is("the heaviest", weightsOf(1, 9, 0), 512);
        due.is("the lightest", weightsOf(0, 2, 1), 2);
        int[] thirteen = new int[39];
        due.is("13 tries", weightsOf(thirteen), ALL);
        thirteen[37] = 5;
        thirteen[38] = 1;
        due.is("the last of 13", weightsOf(thirteen), 2 + 4 + 8);
        WheelsSlip x = Scenes.made(Scenes::busy);
        due.is("whatever the TRAIN is, SANDED, HOLLOW", x.weights(1), 4 + 8);
        due.is("asked() is not told", x.asked(), Scenes.BUSY_ASKED);
        due.is("without a TRAIN", Scenes.made(Scenes::trainless).weights(1), 4 + 8);
        due.leaves("weights(1)", Scenes::busy, y -> y.weights(1));
    }

    @Says("BAD; NOTHING; SIZE: not by threes (a ROW without places is well); UNLIKE.")
    static void promise30BadNothing() {
        due.badOutside("weights", 0, 5, WheelsSlip::weights);
        due.finds("weights(5)", x -> x.weights(5), Make.NOTHING);
    }

    @Says("SIZE: not by threes (a ROW without places is well);")
    static void promise30SizeNotByThrees() {
        for (int k = 0; k <= 40; k++) {
            int n = k;
            if (n % 3 == 0) {
                due.is("weights of " + n, Scenes.made(x -> x.row(0, n)).weights(0), ALL);
            } else {
                due.finds("weights of " + n, Scenes.busyAnd(x -> x.row(0, n)), x -> x.weights(0), Make.SIZE);
            }
        }
        due.is("without places", Scenes.made(Scenes::busy).weights(2), ALL);
        due.finds("SIZE ahead of UNLIKE", x -> x.weights(4), Make.SIZE);
    }

    private static void unlikeInABook(Sentences.Call call) {
        int[] most = {2, 9, 1};
        for (int k = 0; k < 3; k++) {
            int part = k;
            int[] none = {-1, most[k] + 1, LEAST, MOST};
            for (int v : none) {
                for (int p = 0; p < 9; p += 3) {
                    int place = p;
                    due.finds("part " + part + " of the try at " + place + " is " + v,
                        Scenes.busyAnd(x -> x.lay(1, place + part, v)), call, Make.UNLIKE);
                }
            }
            due.holds("the most of part " + part, Scenes.made(Scenes.busyAnd(x -> x.lay(1, part, most[part]))).weights(1) >= 0);
            due.holds("the least of part " + part, Scenes.made(Scenes.busyAnd(x -> x.lay(1, part, 0))).weights(1) >= 0);
        }
    }

    @Says("UNLIKE.")
    static void promise30Unlike() {
        unlikeInABook(x -> x.weights(1));
        due.finds("weights(3) of 12", Scenes.busyAnd(x -> Make.row(x, 3, 0, 0, 0, 0, 0, 0, 0, 0, 0, 3, 0, 0)),
            x -> x.weights(3), Make.UNLIKE);
    }

    private static void liesAre(String what, int weight, int many, int first, int... book) {
        WheelsSlip x = new WheelsSlip();
        Make.row(x, 4, book);
        due.tells("lies(4, " + weight + "), " + what, x, x.lies(4, weight), many, first);
    }

    @Says("The number of tries (threes) that are not as with a WEIGHT (1 .. 9); the first by asked() (NONE).")
    static void promise31LiesAndTheFirst() {
        liesAre("no tries", 1, 0, Make.NONE);
        liesAre("as it is", 3, 0, Make.NONE, 0, 5, 1);
        liesAre("the one", 4, 1, 0, 0, 5, 1);
        liesAre("the second", 4, 1, 1, 0, 5, 0, 0, 5, 1, 0, 5, 0);
        liesAre("the last", 4, 1, 2, 0, 5, 0, 0, 5, 0, 0, 5, 1);
        liesAre("all", 4, 3, 0, 0, 5, 1, 0, 5, 1, 0, 5, 1);
        liesAre("two of three", 4, 2, 1, 0, 5, 0, 0, 5, 1, 0, 5, 1);
        int[] thirteen = new int[39];
        liesAre("none of 13", 9, 0, Make.NONE, thirteen);
        thirteen[38] = 1;
        liesAre("the last of 13", 9, 1, 12, thirteen);
        for (int weight = 1; weight <= 9; weight++) {
            for (int rail = 0; rail < 3; rail++) {
                for (int steam = 0; steam <= 9; steam++) {
                    boolean slips = slips(weight, rail, steam);
                    liesAre("it SLIPPED", weight, slips ? 0 : 1, slips ? Make.NONE : 0, rail, steam, 1);
                    liesAre("it did not", weight, slips ? 1 : 0, slips ? 0 : Make.NONE, rail, steam, 0);
                }
            }
        }
        due.leaves("lies(1, 5)", Scenes::busy, x -> x.lies(1, 5));
        WheelsSlip x = Scenes.made(Scenes::busy);
        due.tells("whatever the TRAIN is, SANDED, HOLLOW", x, x.lies(1, 3), 0, Make.NONE);
        x = Scenes.made(Scenes::trainless);
        due.tells("without a TRAIN", x, x.lies(1, 1), 1, 1);
    }

    @Says("that are not as with a WEIGHT (1 .. 9);")
    static void promise31BadWeight() {
        due.badOutside("lies(1) by", 1, 9, (x, weight) -> x.lies(1, weight));
        due.badOutside("lies(2), empty, by", 1, 9, (x, weight) -> x.lies(2, weight));
        due.badOutside("lies(5), missing, by", 1, 9, (x, weight) -> x.lies(5, weight));
        due.badOutside("lies(4), not by threes, by", 1, 9, (x, weight) -> x.lies(4, weight));
    }

    @Says("BAD; NOTHING; SIZE; UNLIKE.")
    static void promise31BadNothing() {
        due.badOutside("lies", 0, 5, (x, r) -> x.lies(r, 5));
        due.finds("lies(5, 5)", x -> x.lies(5, 5), Make.NOTHING);
    }

    @Says("SIZE; UNLIKE.")
    static void promise31SizeUnlike() {
        for (int k = 0; k <= 40; k++) {
            int n = k;
            if (n % 3 == 0) {
                due.is("lies of " + n, Scenes.made(x -> x.row(0, n)).lies(0, 5), 0);
            } else {
                due.finds("lies of " + n, Scenes.busyAnd(x -> x.row(0, n)), x -> x.lies(0, 5), Make.SIZE);
            }
        }
        due.finds("SIZE ahead of UNLIKE", x -> x.lies(4, 5), Make.SIZE);
        unlikeInABook(x -> x.lies(1, 5));
    }

    @Says("The STEAM (0 .. 9) on a RAIL (0 .. 2) that parts WEIGHTS of a set (bits 1 .. 9) best: the greater part of those "
        + "that SLIP, those that do not, is least (the first); how many that are by asked().")
    static void promise32PartsBest() {
        WheelsSlip x = new WheelsSlip();
        due.tells("1 and 9 on dry: 2 PULLS 4", x, x.trial(2 + 512, 0), 2, 1);
        due.tells("1 and 9 on damp: 2 PULLS 4", x, x.trial(2 + 512, 1), 2, 1);
        due.tells("1 and 9 on leaves: 1 PULLS 2", x, x.trial(2 + 512, 2), 1, 1);
        due.tells("all on dry: 7 PULLS 14", x, x.trial(ALL, 0), 7, 5);
        due.tells("all on damp: 5 PULLS 10", x, x.trial(ALL, 1), 5, 5);
        due.tells("all on leaves: 3 PULLS 6", x, x.trial(ALL, 2), 3, 5);
        due.tells("8 and 9 on leaves: not to be parted by 8, 10", x, x.trial(256 + 512, 2), 0, 2);
        due.tells("7 and 8 on leaves", x, x.trial(128 + 256, 2), 4, 1);
        due.tells("8 and 9 on damp: 9 PULLS 18", x, x.trial(256 + 512, 1), 9, 1);
        due.tells("6 and 7 on dry: 9 PULLS 18, not more", x, x.trial(64 + 128, 0), 0, 2);
        due.tells("5 and 6 on dry: 8 PULLS 16", x, x.trial(32 + 64, 0), 8, 1);
        due.leaves("trial(1022, 1)", Scenes::busy, y -> y.trial(ALL, 1));
        due.leaves("trial(1022, 1)", Scenes::trainless, y -> y.trial(ALL, 1));
    }

    @Says("is least (the first); how many that are by asked().")
    static void promise32TheFirstOfAlikeOnes() {
        WheelsSlip x = new WheelsSlip();
        for (int weight = 1; weight <= 9; weight++) {
            for (int rail = 0; rail < 3; rail++) {
                due.tells("one WEIGHT alone: 0", x, x.trial(1 << weight, rail), 0, 1);
            }
        }
        due.tells("three: 1 and 2 at first", x, x.trial(2 + 256 + 512, 2), 1, 2);
        due.tells("three: 2 and 1 behind it", x, x.trial(2 + 4 + 512, 2), 1, 2);
    }

    @Says("(bits 1 .. 9)")
    static void promise32EachSetAsItIsTried() {
        for (int rail = 0; rail < 3; rail++) {
            WheelsSlip x = new WheelsSlip();
            for (int set = 2; set <= ALL; set += 10) {
                int best = -1;
                int least = 99;
                for (int steam = 0; steam <= 9; steam++) {
                    int part = 0;
                    for (int weight = 1; weight <= 9; weight++) {
                        part += (set & 1 << weight) != 0 && slips(weight, rail, steam) ? 1 : 0;
                    }
                    int greater = Math.max(part, Integer.bitCount(set) - part);
                    if (greater < least) {
                        least = greater;
                        best = steam;
                    }
                }
                due.tells("trial(" + set + ", " + rail + ")", x, x.trial(set, rail), best, least);
            }
        }
    }

    @Says("BAD: also an empty set, other bits.")
    static void promise32Bad() {
        due.badOutside("trial on a RAIL", 0, 2, (x, rail) -> x.trial(ALL, rail));
        due.bad("an empty set", x -> x.trial(0, 0));
        due.bad("bit 0", x -> x.trial(1, 0));
        due.bad("bit 0, and others", x -> x.trial(3, 0));
        due.bad("all and bit 0", x -> x.trial(1023, 0));
        for (int k = 10; k < 32; k++) {
            int bit = k;
            due.bad("bit " + bit, x -> x.trial(1 << bit, 0));
            due.bad("bit " + bit + ", and another", x -> x.trial(1 << bit | 2, 0));
        }
        due.bad("-1", x -> x.trial(-1, 0));
        due.is("bit 1 is well", new WheelsSlip().trial(2, 0), 0);
        due.is("bit 9 is well", new WheelsSlip().trial(512, 2), 0);
    }

    private static int thingOf(long number) {
        return (int) (number / 16 % 15);
    }

    private static void lotsDo(Scenes.Scene scene, int n, int seed) {
        WheelsSlip x = Scenes.made(scene);
        WheelsSlip twin = Scenes.made(scene);
        long number = seed;
        int gone = 0;
        for (int i = 0; i < n; i++) {
            number = number * 48271L % 2147483647L;
            int came = twin.go(thingOf(number));
            if (came == Make.STATE) {
                came = twin.go(11);
            }
            gone += came == 4 ? 1 : 0;
        }
        due.is("lots(" + n + ", " + seed + ")", x.lots(n, seed), gone);
        due.is("lots(" + n + ", " + seed + ") did the same", x.digest(), twin.digest());
        due.is("asked() is not told", x.asked(), twin.asked());
    }

    @Says("n (1 .. 20) THINGS truly by LOTS of a seed: a number comes from the one ahead by 48271 times it modulo 2147483647, "
        + "the first from the seed (1 .. 2147483646): the THING is it by 16, cut, modulo 15")
    static void promise33ThingsByLots() {
        int[] seeds = {1, 2, 3, 77, 44488, 44489, 31337, 1234567890, 2147483645, 2147483646};
        for (int seed : seeds) {
            for (int n = 1; n <= 20; n++) {
                lotsDo(Scenes.train("e9990 id", 13), n, seed);
            }
            lotsDo(Scenes::busy, 20, seed);
            lotsDo(Scenes::torn, 20, seed);
        }
        WheelsSlip x = Scenes.made(Scenes::busy);
        x.lots(3, 1);
        due.is("they are DEEDS", x.count(2), Scenes.BUSY_DEEDS + 3);
        due.is("they can be undone", x.undo(Scenes.BUSY_DEEDS), 3);
        due.is("and then it is as it was", x.digest(), Scenes.made(Scenes::busy).digest());
    }

    @Says("(if it can't be, the BLOWER): how much further GONE.")
    static void promise33TheBlowerIfItCantBe() {
        for (int thing = 0; thing < 15; thing++) {
            int seed = 1;
            while (thingOf(seed * 48271L % 2147483647L) != thing) {
                seed++;
            }
            WheelsSlip x = train("e9000 id w11", 13);
            due.is("lots(1, " + seed + "), THING " + thing, x.lots(1, seed), 0);
            boolean blows = thing >= 1 && thing <= 11;
            due.is("STEAM behind it", Make.engine(x, 1), blows ? 2 : 0);
            due.is("a DEED", x.count(2), 2);
            x = train("e9900 id", 13, 0);
            due.is("further GONE by THING " + thing, x.lots(1, seed), thing <= 9 ? 1 : 0);
            x = train("e9900 id w11", 13, 9);
            x.lots(1, seed);
            due.is("no BRAKE: OFF", Make.engine(x, 6), 0);
            due.is("no BRAKE: STEAM", Make.engine(x, 1), thing == 14 || thing == 10 || thing == 9 || thing == 11 ? 9
                : thing == 0 || thing > 11 ? 8 : 7);
        }
    }

    @Says("n (1 .. 20) THINGS")
    static void promise33BadN() {
        due.badOutside("lots of", 1, 20, (x, n) -> x.lots(n, 1));
        due.badOutside("lots without a TRAIN of", 1, 20, Scenes::trainless, (x, n) -> x.lots(n, 1));
    }

    @Says("the first from the seed (1 .. 2147483646)")
    static void promise33BadSeed() {
        due.badBelow("lots of the seed", 1, Scenes::busy, (x, seed) -> x.lots(1, seed));
        due.badAbove("lots of the seed", 2147483646, Scenes::busy, (x, seed) -> x.lots(1, seed));
        due.badBelow("lots without a TRAIN of the seed", 1, Scenes::trainless, (x, seed) -> x.lots(20, seed));
        due.badAbove("lots without a TRAIN of the seed", 2147483646, Scenes::trainless, (x, seed) -> x.lots(20, seed));
    }

    @Says("BAD; STATE: no TRAIN; FULL: with n more there would be more than 60 DEEDS.")
    static void promise33State() {
        due.state("lots(1, 1)", Scenes::trainless, x -> x.lots(1, 1));
        due.state("lots(20, 2147483646)", Scenes::trainless, x -> x.lots(20, 2147483646));
    }

    private static Scenes.Scene deeds(int many) {
        return x -> {
            Scenes.busy(x);
            for (int i = Scenes.BUSY_DEEDS; i < many; i++) {
                x.go(12);
            }
        };
    }

    @Says("FULL: with n more there would be more than 60 DEEDS.")
    static void promise33Full() {
        for (int k = 1; k <= 20; k++) {
            int n = k;
            WheelsSlip x = Scenes.made(deeds(60 - n));
            due.holds("60 with " + n, x.lots(n, 7) >= 0);
            due.is("60 DEEDS", x.count(2), 60);
            due.full("61 with " + n, deeds(61 - n), y -> y.lots(n, 7));
            due.full("60 and " + n, Scenes::full, y -> y.lots(n, 7));
        }
    }

    @Says("(FULL last.)")
    static void promise33FullLast() {
        due.badOutside("BAD ahead of FULL: lots of", 1, 20, Scenes::full, (x, n) -> x.lots(n, 1));
        due.badBelow("BAD ahead of FULL: the seed", 1, Scenes::full, (x, seed) -> x.lots(1, seed));
        due.badAbove("BAD ahead of FULL: the seed", 2147483646, Scenes::full, (x, seed) -> x.lots(1, seed));
    }
}
