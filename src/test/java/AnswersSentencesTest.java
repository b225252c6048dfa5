/** Terms, ANSWERS: what is answered and refused, in which order, the FINDINGS, chances, sets. */
public final class AnswersSentencesTest {
    private static final Sentences due = new Sentences(AnswersSentencesTest.class);
    private static final int[] EDGES =
        {Integer.MIN_VALUE, -2, -1, 0, 1, 2, 3, 4, 5, 6, 7, 9, 10, 12, 13, 14, 15, 21, 40, 41, 61, Integer.MAX_VALUE};
    private static final int[] FEW_EDGES = {Integer.MIN_VALUE, -1, 0, 1, 2, 3, 6, Integer.MAX_VALUE};

    public static void main(String[] args) throws IllegalAccessException {
        due.hold();
    }

    @Says({"BAD -1", "FULL -2", "STATE -4", "SPENT -6", "FINDING -3", "NONE -9"})
    static void answersNumbers() {
        due.is("BAD", WheelsSlip.BAD, -1);
        due.is("FULL", WheelsSlip.FULL, -2);
        due.is("STATE", WheelsSlip.STATE, -4);
        due.is("SPENT", WheelsSlip.SPENT, -6);
        due.is("FINDING", WheelsSlip.FINDING, -3);
        due.is("NONE", WheelsSlip.NONE, -9);
        due.is("row(6, 0)", Scenes.made(Scenes::busy).row(6, 0), -1);
        due.is("go(12) behind 60 DEEDS", Scenes.made(Scenes::full).go(12), -2);
        due.is("tear(5)", Scenes.made(Scenes::busy).tear(5), -3);
        due.is("grip() without a TRAIN", Scenes.made(Scenes::trainless).grip(), -4);
        due.is("shortest(0, 0)", Scenes.made(Scenes::busy).shortest(0, 0), -9);
    }

    @Says("Refused is, the first of these that fits, in this order")
    static void answersBadAheadOfFull() {
        due.badOutside("go behind 60 DEEDS", 0, 14, Scenes::full, WheelsSlip::go);
        due.badOutside("lots of n behind 60 DEEDS", 1, 20, Scenes::full, (x, n) -> x.lots(n, 1));
        due.badBelow("lots of a seed behind 60 DEEDS", 1, Scenes::full, (x, seed) -> x.lots(1, seed));
        due.badAbove("lots of a seed behind 60 DEEDS", 2147483646, Scenes::full, (x, seed) -> x.lots(1, seed));
    }

    @Says("the first of these that fits, in this order")
    static void answersBadAheadOfState() {
        due.badOutside("go", 0, 14, Scenes::trainless, WheelsSlip::go);
        due.badOutside("keep", 0, 2, Scenes::trainless, WheelsSlip::keep);
        due.badOutside("would", 0, 9, Scenes::trainless, WheelsSlip::would);
        due.badOutside("run", 0, 5, Scenes::trainless, WheelsSlip::run);
        due.badOutside("shortest of n", 0, 4, Scenes::trainless, (x, n) -> x.shortest(n, 0));
        due.badOutside("shortest to a ROW", 0, 5, Scenes::trainless, (x, r) -> x.shortest(2, r));
        due.badOutside("ways", 0, 4, Scenes::trainless, WheelsSlip::ways);
        due.badOutside("stay", 0, 4, Scenes::trainless, WheelsSlip::stay);
        due.badOutside("odds of a ROW", 0, 5, Scenes::trainless, (x, r) -> x.odds(r, 4, 4));
        due.badOutside("odds by d", 0, 12, Scenes::trainless, (x, d) -> x.odds(0, d, 0));
        due.badOutside("odds by w", 0, 12, Scenes::trainless, (x, w) -> x.odds(0, 0, w));
        due.bad("odds by 7 and 6", Scenes::trainless, x -> x.odds(0, 7, 6));
        due.badOutside("lots of n", 1, 20, Scenes::trainless, (x, n) -> x.lots(n, 1));
        due.badBelow("lots of a seed", 1, Scenes::trainless, (x, seed) -> x.lots(1, seed));
        due.badAbove("lots of a seed", 2147483646, Scenes::trainless, (x, seed) -> x.lots(1, seed));
    }

    @Says("the first of these that fits, in this order")
    static void answersBadAheadOfFinding() {
        due.badOutside("row of -1", 0, 5, (x, r) -> x.row(r, -1));
        due.badOutside("text of -1", 0, 3, (x, t) -> x.text(t, -1));
        due.badOutside("copy of -1 from", 0, 5, (x, r) -> x.copy(r, -1, 5, -1, -1));
        due.badOutside("copy of -1 to", 0, 5, (x, to) -> x.copy(5, -1, to, -1, -1));
        due.badOutside("lay at -1", 0, 5, (x, r) -> x.lay(r, -1, 3));
        due.badOutside("at -1", 0, 5, (x, r) -> x.at(r, -1));
        due.badOutside("put at -1", 0, 3, (x, t) -> x.put(t, -1, 3));
        due.badOutside("mark of a KIND, none such", 1, 5, (x, kind) -> x.mark(0, kind));
        due.badOutside("mark, none so told", 0, 2, (x, i) -> x.mark(i, 3));
        due.badOutside("odds by d of a missing ROW", 0, 12, (x, d) -> x.odds(5, d, 0));
        due.badOutside("odds by w of too long a ROW", 0, 12, (x, w) -> x.odds(3, 0, w));
        due.badOutside("lies by a WEIGHT of a missing ROW", 1, 9, (x, weight) -> x.lies(5, weight));
        due.badOutside("lies by a WEIGHT of a ROW not by threes", 1, 9, (x, weight) -> x.lies(4, weight));
    }

    @Says("the first of these that fits, in this order")
    static void answersStateAheadOfFinding() {
        due.state("run of a missing ROW", Scenes::trainless, x -> x.run(5));
        due.state("run of 13", Scenes::trainless, x -> x.run(3));
        due.state("odds of a missing ROW", Scenes::trainless, x -> x.odds(5, 4, 4));
        due.state("odds of 13", Scenes::trainless, x -> x.odds(3, 4, 4));
    }

    @Says("unless a call says so otherwise")
    static void answersAnotherOrderIfACallSaysSo() {
        due.state("engine(10), STATE ahead of BAD", Scenes::trainless, x -> x.engine(10));
        due.state("engine(-1), STATE ahead of BAD", Scenes::trainless, x -> x.engine(-1));
        due.finds("train(3), NOTHING ahead of STATE", x -> x.train(3), Make.NOTHING);
        due.state("go(14), STATE ahead of FULL", x -> {
            Scenes.torn(x);
            for (int i = x.count(2); i < 60; i++) {
                x.go(12);
            }
        }, x -> x.go(14));
        due.finds("copy(5, ..), SIZE ahead of NOTHING", x -> x.copy(5, 0, 0, 0, -1), Make.SIZE);
        due.finds("run(3), SIZE ahead of UNLIKE", x -> x.run(3), Make.SIZE);
    }

    @Says({"a number that is none, or not as told", "not now", "more than told", "finding() tells which"})
    static void answersOneOfEach() {
        due.bad("count(8): a number that is none", x -> x.count(8));
        due.bad("trial(3, 0): not as told", x -> x.trial(3, 0));
        due.state("go(7), 6 STEAM: not now", Scenes::busy, x -> x.go(7));
        due.finds("mean(2)", x -> x.mean(2), Make.NOUGHT);
        due.finds("mean(5)", x -> x.mean(5), Make.NOTHING);
        // SPENT is named by no promise: a PLAN with more than is told is refused by SIZE, DEEDS by FULL.
        due.finds("run(3), 13 THINGS", x -> x.run(3), Make.SIZE);
        due.full("go(12)", Scenes::full, x -> x.go(12));
    }

    @Says("NONE -9 (a ROW that something was to come to stays as it is then)")
    static void answersNoneLeavesTheRow() {
        for (int r = 0; r < 6; r++) {
            int row = r;
            due.none("shortest(0, " + r + ")", Scenes::busy, x -> x.shortest(0, row));
            due.none("shortest(4, " + r + ")", Scenes.busyAnd(Scenes.train("e9000 id w99 w99")), x -> x.shortest(4, row));
        }
        due.none("stay(0)", Scenes::busy, x -> x.stay(0));
        due.none("fault(0)", Scenes::busy, x -> x.fault(0));
        due.none("worst()", Scenes::trainless, WheelsSlip::worst);
    }

    private static void refusedOrLeft(String what, Sentences.Call call) {
        Scenes.Scene[] scenes = {Scenes::fresh, Scenes::trainless, Scenes::busy, Scenes::torn, Scenes::full};
        for (Scenes.Scene scene : scenes) {
            WheelsSlip asked = Scenes.made(scene);
            long answer = call.on(asked);
            if (answer < 0) {
                int finding = answer == WheelsSlip.FINDING ? asked.finding() : 0;
                due.holds(what + ", finding()", answer != WheelsSlip.FINDING || finding >= 1 && finding <= 5);
                due.refuses(what, scene, call, answer, finding);
            }
        }
    }

    @Says("What is refused changes nothing but finding(), findings().")
    static void answersRefusedChangesNothingElse() {
        for (int a : EDGES) {
            refusedOrLeft("tear " + a, x -> x.tear(a));
            refusedOrLeft("mean " + a, x -> x.mean(a));
            refusedOrLeft("fault " + a, x -> x.fault(a));
            refusedOrLeft("train " + a, x -> x.train(a));
            refusedOrLeft("engine " + a, x -> x.engine(a));
            refusedOrLeft("go " + a, x -> x.go(a));
            refusedOrLeft("undo " + a, x -> x.undo(a));
            refusedOrLeft("keep " + a, x -> x.keep(a));
            refusedOrLeft("on " + a, x -> x.on(a));
            refusedOrLeft("load " + a, x -> x.load(a));
            refusedOrLeft("would " + a, x -> x.would(a));
            refusedOrLeft("run " + a, x -> x.run(a));
            refusedOrLeft("ways " + a, x -> x.ways(a));
            refusedOrLeft("stay " + a, x -> x.stay(a));
            refusedOrLeft("weights " + a, x -> x.weights(a));
            refusedOrLeft("count " + a, x -> x.count(a));
            refusedOrLeft("findings " + a, x -> x.findings(a));
        }
        refusedOrLeft("grip", WheelsSlip::grip);
        refusedOrLeft("steam", WheelsSlip::steam);
        refusedOrLeft("worst", WheelsSlip::worst);
        refusedOrLeft("bad", WheelsSlip::bad);
    }

    @Says("What is refused changes nothing but finding(), findings().")
    static void answersRefusedChangesNothingElseByTwoNumbers() {
        for (int a : EDGES) {
            for (int b : EDGES) {
                String by = " " + a + ", " + b;
                refusedOrLeft("row" + by, x -> x.row(a, b));
                refusedOrLeft("lay" + by, x -> x.lay(a, b, 77));
                refusedOrLeft("at" + by, x -> x.at(a, b));
                refusedOrLeft("text" + by, x -> x.text(a, b));
                refusedOrLeft("put" + by, x -> x.put(a, b, 77));
                refusedOrLeft("wagon" + by, x -> x.wagon(a, b));
                refusedOrLeft("mark" + by, x -> x.mark(a, b));
                refusedOrLeft("shortest" + by, x -> x.shortest(a, b));
                refusedOrLeft("odds of 0" + by, x -> x.odds(0, a, b));
                refusedOrLeft("odds by 4" + by, x -> x.odds(a, 4, b));
                refusedOrLeft("lies" + by, x -> x.lies(a, b));
                refusedOrLeft("trial" + by, x -> x.trial(a, b));
                refusedOrLeft("lots" + by, x -> x.lots(a, b));
            }
        }
    }

    @Says("What is refused changes nothing but finding(), findings().")
    static void answersRefusedCopyChangesNothingElse() {
        for (int r = -1; r < 7; r++) {
            for (int to = -1; to < 7; to++) {
                for (int i : FEW_EDGES) {
                    int from = r;
                    int into = to;
                    refusedOrLeft("copy " + r + ", " + i + ", " + to + ", 0, 1", x -> x.copy(from, i, into, 0, 1));
                    refusedOrLeft("copy " + r + ", 0, " + to + ", " + i + ", 1", x -> x.copy(from, 0, into, i, 1));
                    refusedOrLeft("copy " + r + ", 1, " + to + ", 1, " + i, x -> x.copy(from, 1, into, 1, i));
                }
            }
        }
    }

    @Says("FINDINGS: 1 NOTHING (a ROW, a TEXT, a kept TRAIN that is missing)")
    static void answersNothing() {
        due.finds("a ROW: tear(5)", x -> x.tear(5), 1);
        due.finds("a TEXT: fault(3)", x -> x.fault(3), 1);
        due.finds("a kept TRAIN: on(2)", x -> x.on(2), 1);
    }

    @Says("2 BEYOND (a place that there is not)")
    static void answersBeyond() {
        due.finds("behind a ROW: at(0, 2)", x -> x.at(0, 2), 2);
        due.finds("ahead of a ROW: at(0, -1)", x -> x.at(0, -1), 2);
        due.finds("behind a TEXT: put(1, 7, 1)", x -> x.put(1, 7, 1), 2);
        due.finds("in an empty TEXT: put(2, 0, 1)", x -> x.put(2, 0, 1), 2);
    }

    @Says("3 UNLIKE (a WAGON of another KIND; a number that is none)")
    static void answersUnlike() {
        due.finds("of another KIND: mark(0, 1)", x -> x.mark(0, 1), 3);
        due.finds("a THING that is none: run(0)", Scenes.busyAnd(x -> x.lay(0, 1, 15)), x -> x.run(0), 3);
        due.finds("a RAIL that is none: weights(1)", Scenes.busyAnd(x -> x.lay(1, 0, 3)), x -> x.weights(1), 3);
    }

    @Says("4 NOUGHT (shared among none)")
    static void answersNought() {
        due.finds("mean(2)", x -> x.mean(2), 4);
    }

    @Says("5 SIZE (fewer than none; not as many as due)")
    static void answersSize() {
        due.finds("fewer than none: row(0, -1)", x -> x.row(0, -1), 5);
        due.finds("fewer than none: copy(0, 0, 1, 0, -1)", x -> x.copy(0, 0, 1, 0, -1), 5);
        due.finds("more than due: run(3)", x -> x.run(3), 5);
        due.finds("not by threes: weights(4)", x -> x.weights(4), 5);
    }

    @Says("Chances are told by upper(), lower(), in lowest terms, the lower number above 0 (0 by 1).")
    static void answersChancesInLowestTerms() {
        int[] uppers = {0, 1, 1, 1, 1, 5, 1, 7, 2, 3, 5, 11, 1};
        int[] lowers = {1, 12, 6, 4, 3, 12, 2, 12, 3, 4, 6, 12, 1};
        for (int d = 0; d <= 12; d++) {
            WheelsSlip x = Scenes.made(Scenes.train("e2910 il", 13));
            Make.row(x, 0, 3);
            x.odds(0, d, 0);
            due.is("upper() of " + d + " by 12", x.upper(), uppers[d]);
            due.is("lower() of " + d + " by 12", x.lower(), lowers[d]);
        }
    }

    @Says("Sets are told by bits.")
    static void answersSetsByBits() {
        WheelsSlip x = Scenes.made(Scenes::busy);
        due.is("weights(1): 2 and 3", x.weights(1), 4 + 8);
        due.is("weights(2): 1 to 9", x.weights(2), 2 + 4 + 8 + 16 + 32 + 64 + 128 + 256 + 512);
        due.tells("trial of 2 and 3 on leaves", x, x.trial(4 + 8, 2), 0, 2);
    }
}
