import java.util.Arrays;

/** Terms, 2: MINUTES, GRIP, LOAD, what each THING does, DEEDS, PLANS. */
public final class MinutesSentencesTest {
    private static final Sentences due = new Sentences(MinutesSentencesTest.class);
    private static final int IDLE = 0;
    private static final int SLIPPED = 1;
    private static final int TAKEN_UP = 2;
    private static final int TORE = 3;
    private static final int WENT = 4;
    private static final int ROLLED = 5;
    private static final int OTHER = 6;
    private static final String TORE_WORDS = "but if by how much it PULLS more than that LOAD, and by how much that one is "
        + "SLACK, together, is more than it HOLDS, it TEARS: that one and all behind it are lost";
    private static final String SANDED_WORDS = "In each case what was SANDED is so no more.";

    public static void main(String[] args) throws IllegalAccessException {
        due.hold();
    }

    private static WheelsSlip train(String signs, int... things) {
        return Scenes.made(Scenes.train(signs, things));
    }

    private static int steam(WheelsSlip x) {
        return Make.engine(x, 1);
    }

    private static int sand(WheelsSlip x) {
        return Make.engine(x, 2);
    }

    private static int hollow(WheelsSlip x) {
        return Make.engine(x, 4);
    }

    private static int sanded(WheelsSlip x) {
        return Make.engine(x, 5);
    }

    private static int brake(WheelsSlip x) {
        return Make.engine(x, 6);
    }

    private static int taken(WheelsSlip x) {
        return Make.engine(x, 7);
    }

    private static int minute(WheelsSlip x) {
        return Make.engine(x, 8);
    }

    private static int gone(WheelsSlip x) {
        return Make.engine(x, 9);
    }

    /** What comes of a THING done behind others. */
    private static void comes(String what, String signs, int[] ahead, int thing, int want) {
        WheelsSlip x = train(signs, ahead);
        due.is(what + ": all is done ahead", x.count(2), ahead.length);
        due.is(what, x.go(thing), want);
    }

    private static int[] things(int... things) {
        return things;
    }

    @Says({"MINUTES are 0, 1, ..", "In each MINUTE one thing is done (a THING, told by a number), then it is over:"})
    static void minutesOneForEachThing() {
        WheelsSlip x = train("e9110 id w99 w99");
        due.is("at first", minute(x), 0);
        int[] things = {0, 1, 10, 11, 12, 13, 14, 2, 9};
        int[] minutes = {1, 2, 3, 4, 5, 6, 7, 8, 8};
        for (int i = 0; i < things.length; i++) {
            x.go(things[i]);
            due.is("the MINUTE behind go(" + things[i] + ")", minute(x), minutes[i]);
        }
        for (int i = 8; i < 60; i++) {
            x.go(12);
        }
        due.is("the last", minute(x), 60);
    }

    @Says("At first no WAGON is TAKEN UP, the BRAKE is ON, nothing is HOLLOW, SANDED, GONE.")
    static void minutesAtFirst() {
        WheelsSlip x = Scenes.made(Scenes::busy);
        for (int round = 0; round < 2; round++) {
            due.is("train(0)", x.train(0), 3);
            due.is("TAKEN UP", taken(x), 0);
            due.is("WAGON 0 TAKEN UP", Make.wagon(x, 0, 5), 0);
            due.is("the BRAKE", brake(x), 1);
            due.is("HOLLOW", hollow(x), 0);
            due.is("SANDED", sanded(x), 0);
            due.is("GONE", gone(x), 0);
            due.is("MINUTE", minute(x), 0);
            Make.go(x, 13, 10);
        }
        due.is("the BRAKE ON is not lost", x.go(14), OTHER);
    }

    @Says("GRIP is the WEIGHT times 3 on a dry, 2 on a damp RAIL, 1 on leaves;")
    static void minutesGripByWeightAndRail() {
        for (int weight = 1; weight <= 9; weight++) {
            for (int rail = 0; rail < 3; rail++) {
                WheelsSlip x = train("e" + weight + "000 i" + "dwl".charAt(rail));
                due.is("WEIGHT " + weight + " on " + "dwl".charAt(rail), x.grip(), weight * (3 - rail));
            }
        }
    }

    @Says("less what is HOLLOW, 0 at least;")
    static void minutesGripLessHollow() {
        WheelsSlip x = train("e2900 il");
        int[] steam = {9, 7, 5, 3};
        int[] grips = {1, 0, 0, 0};
        for (int i = 0; i < 4; i++) {
            due.is("it SLIPS", x.go(steam[i]), SLIPPED);
            due.is("HOLLOW", hollow(x), i + 1);
            due.is("GRIP, HOLLOW " + (i + 1), x.grip(), grips[i]);
        }
        x = train("e3900 ild", 9, 7, 7, 5, 5, 3);
        due.is("HOLLOW by 9, 5, 3 on leaves", hollow(x), 3);
        due.is("GRIP on leaves", x.grip(), 0);
        x.go(12);
        due.is("GRIP on a dry RAIL", x.grip(), 6);
    }

    @Says("then 3 more, if it is SANDED.")
    static void minutesGrip3MoreSanded() {
        WheelsSlip x = train("e2920 il", 9, 7, 5);
        due.tells("HOLLOW 3 of 2: 0 and 3 more", x, x.grip(), 0, 3);
        x.go(10);
        due.tells("SANDED", x, x.grip(), 3, 3);
        x.go(10);
        due.tells("SANDED twice", x, x.grip(), 3, 3);
        x = train("e9910 id", 10);
        due.tells("SANDED on a dry RAIL", x, x.grip(), 30, 30);
    }

    @Says("LOAD of n WAGONS is what the first n WEIGH together.")
    static void minutesLoad() {
        WheelsSlip x = train("e9992 id w91 h91 s91 p91 r91 b91");
        int[] on = {0, 11, 31, 42, 51, 71, 85};
        for (int n = 0; n <= 6; n++) {
            due.is("load(" + n + ")", x.load(n), on[n]);
        }
        x.go(13);
        for (int n = 0; n <= 6; n++) {
            due.is("load(" + n + "), the BRAKE OFF", x.load(n), on[n] - (n == 6 ? 3 : 0));
        }
    }

    @Says("0 .. 9 STEAM is GIVEN (as much, no more than there is):")
    static void minutesSteamNoMoreThanThereIs() {
        for (int there = 0; there <= 9; there++) {
            for (int given = 0; given <= 9; given++) {
                int thing = given;
                Scenes.Scene one = Scenes.train("e9" + there + "00 id w99 w99");
                if (given <= there) {
                    due.holds("go(" + given + ") of " + there, Scenes.made(one).go(thing) >= 0);
                } else {
                    due.state("go(" + given + ") of " + there, one, x -> x.go(thing));
                }
            }
        }
        due.state("2, as 1 is left of 2", Scenes.train("e9200 id w99 w99", 1), x -> x.go(2));
        due.state("1, as none is left", Scenes.train("e9200 id w99 w99", 1, 1), x -> x.go(1));
    }

    @Says("it PULLS twice that.")
    static void minutesPullsTwice() {
        for (int steam = 0; steam <= 9; steam++) {
            for (int tons = 1; tons <= 9; tons++) {
                int over = 2 * steam - tons;
                WheelsSlip x = train("e9900 id w" + tons + "9 w99");
                due.is("STEAM " + steam + ", LOAD " + tons, x.go(steam), over < 0 ? IDLE : over <= 9 ? TAKEN_UP : TORE);
            }
        }
    }

    @Says("If it PULLS more than GRIP, it SLIPS:")
    static void minutesSlipsIfItPullsMoreThanGrip() {
        for (int weight = 1; weight <= 9; weight++) {
            for (int rail = 0; rail < 3; rail++) {
                for (int steam = 0; steam <= 9; steam++) {
                    WheelsSlip x = train("e" + weight + "913 i" + "dwl".charAt(rail) + " h99 h99");
                    boolean slips = 2 * steam > weight * (3 - rail);
                    String what = "WEIGHT " + weight + " on " + "dwl".charAt(rail) + ", STEAM " + steam;
                    due.is(what, x.go(steam), slips ? SLIPPED : IDLE);
                    due.is(what + ", HOLLOW", hollow(x), slips ? 1 : 0);
                    x.undo(0);
                    x.go(10);
                    slips = 2 * steam > weight * (3 - rail) + 3;
                    // The RAILS are all alike: SAND alone makes the difference.
                    due.is(what + ", SANDED", x.go(steam), slips ? SLIPPED : IDLE);
                }
            }
        }
    }

    @Says("1 more HOLLOW (9 at most)")
    static void minutesHollow9AtMost() {
        WheelsSlip x = train("e1900 il w11 w11");
        for (int i = 1; i <= 12; i++) {
            due.is("it SLIPS", x.go(9), SLIPPED);
            due.is("HOLLOW, slip " + i, hollow(x), Math.min(9, i));
            x.go(11);
        }
        x = train("e9900 il", 9, 8);
        due.is("what does not SLIP leaves no HOLLOW", hollow(x), 1);
    }

    @Says("2 less STEAM (0 at least).")
    static void minutesSlipTakes2Steam() {
        int[] left = {0, 0, 0, 1, 2, 3, 4, 5, 6, 7};
        for (int there = 1; there <= 9; there++) {
            for (int given = 1; given <= there; given++) {
                WheelsSlip x = train("e1" + there + "00 il w11");
                due.is("it SLIPS", x.go(given), SLIPPED);
                due.is(given + " of " + there + " SLIPPED: left", steam(x), left[there]);
            }
        }
    }

    @Says("Else 1 less STEAM, if any was given, and:")
    static void minutesElse1LessSteamIfAnyWasGiven() {
        for (int there = 0; there <= 9; there++) {
            for (int given = 0; given <= there; given++) {
                WheelsSlip x = train("e9" + there + "03 id h99 h99");
                due.is("it does not", x.go(given), IDLE);
                due.is(given + " of " + there + " given: left", steam(x), given == 0 ? there : there - 1);
            }
        }
    }

    @Says("Else 1 less STEAM, if any was given, and:")
    static void minutesElse1LessSteamInEachCase() {
        WheelsSlip x = train("e9900 id w29 w29", 1);
        due.is("TAKEN UP: left", steam(x), 8);
        x.go(13);
        x.go(2);
        due.is("TAKEN UP, the last: left", steam(x), 7);
        due.is("it goes", x.go(2), WENT);
        due.is("GONE: left", steam(x), 6);
        due.is("it ROLLS BACK", x.go(1), ROLLED);
        due.is("ROLLED BACK: left", steam(x), 5);
        x = train("e9900 id w21 w29");
        due.is("it TEARS", x.go(2), TORE);
        due.is("TORN: left", steam(x), 8);
        x = train("e9300 id w29 w29", 1, 13);
        due.is("it ROLLS BACK by 0", x.go(0), ROLLED);
        due.is("none given: left", steam(x), 2);
        x = train("e9300 id p19 p19");
        due.is("TAKEN UP by 0", x.go(0), TAKEN_UP);
        due.is("none given: left", steam(x), 3);
        x = train("e9300 id", 13);
        due.is("GONE by 0", x.go(0), WENT);
        due.is("none given: left", steam(x), 3);
    }

    @Says("if not all WAGONS are TAKEN UP, and it PULLS no less than the LOAD with the next one")
    static void minutesTakesUpTheNextOne() {
        comes("less than the LOAD", "e9900 id w49 w99 w99", things(), 1, IDLE);
        comes("as much", "e9900 id w49 w99 w99", things(), 2, TAKEN_UP);
        comes("1 more", "e9900 id w39 w99 w99", things(), 2, TAKEN_UP);
        comes("1 less", "e9900 id w59 w99 w99", things(), 2, IDLE);
        comes("LOAD with the second 6: less", "e9900 id w29 w49 w99", things(1), 2, IDLE);
        comes("LOAD with the second 6: as much", "e9900 id w29 w49 w99", things(1), 3, TAKEN_UP);
        comes("LOAD with the third 9: 1 less", "e9900 id w29 w49 w39 w99", things(1, 3), 4, IDLE);
        comes("LOAD with the third 9: 1 more", "e9900 id w29 w49 w39 w99", things(1, 3), 5, TAKEN_UP);
        due.is("one at a time", taken(train("e9900 id p19 p19 p19 p19 p19 p19", 4)), 1);
        WheelsSlip x = train("e9900 id w19 w19 w19 w19 w19 w19", 1, 1, 2);
        due.is("one by one", taken(x), 3);
        for (int i = 0; i < 6; i++) {
            due.is("WAGON " + i + " TAKEN UP", Make.wagon(x, i, 5), i < 3 ? 1 : 0);
        }
    }

    @Says("(of the last one just if the BRAKE is OFF): that is TAKEN UP;")
    static void minutesTakesUpTheLastOneIfTheBrakeIsOff() {
        comes("one alone, ON", "e9900 id w29", things(), 1, IDLE);
        comes("one alone, OFF", "e9900 id w29", things(13), 1, TAKEN_UP);
        comes("one alone, ON again", "e9900 id w29", things(13, 14), 1, IDLE);
        comes("the last of two, ON", "e9900 id w29 w29", things(1), 2, IDLE);
        comes("the last of two, OFF", "e9900 id w29 w29", things(1, 13), 2, TAKEN_UP);
        comes("the last but one, ON", "e9900 id w29 w29 w29", things(1), 2, TAKEN_UP);
        comes("the last of six, ON", "e9900 id p19 p19 p19 p19 p19 p19", things(0, 0, 0, 0, 0), 0, IDLE);
        comes("the last of six, OFF", "e9900 id p19 p19 p19 p19 p19 p19", things(0, 0, 0, 0, 0, 13), 0, TAKEN_UP);
        comes("it does not TEAR either, ON", "e9900 id w21", things(), 9, IDLE);
        comes("it TEARS, OFF", "e9900 id w21", things(13), 9, TORE);
        WheelsSlip x = train("e9900 id w19 w11 w11", 1, 8, 12);
        due.is("the last that is left, the BRAKE lost", x.go(1), TAKEN_UP);
    }

    @Says(TORE_WORDS)
    static void minutesTearsByThePull() {
        for (int coupling = 1; coupling <= 9; coupling++) {
            for (int steam = 1; steam <= 9; steam++) {
                comes("LOAD 1, it HOLDS " + coupling, "e9900 id w1" + coupling + " w99", things(), steam,
                    2 * steam - 1 > coupling ? TORE : TAKEN_UP);
                comes("LOAD 2, it HOLDS " + coupling, "e9900 id h1" + coupling + " w99", things(), steam,
                    2 * steam - 2 > coupling ? TORE : TAKEN_UP);
            }
        }
    }

    @Says(TORE_WORDS)
    static void minutesTearsByPullAndSlack() {
        for (int coupling = 1; coupling <= 9; coupling++) {
            for (int steam = 1; steam <= 9; steam++) {
                comes("SLACK, it HOLDS " + coupling, "e9900 id s1" + coupling + " w99", things(), steam,
                    2 * steam - 1 + 2 > coupling ? TORE : TAKEN_UP);
                comes("BRAKED, the BRAKE OFF, it HOLDS " + coupling, "e9900 id b1" + coupling + " w99", things(13), steam,
                    2 * steam - 1 + 2 > coupling ? TORE : TAKEN_UP);
                comes("BRAKED, the BRAKE ON, it HOLDS " + coupling, "e9900 id b1" + coupling + " w99", things(), steam,
                    steam < 2 ? IDLE : 2 * steam - 4 + 2 > coupling ? TORE : TAKEN_UP);
            }
        }
    }

    @Says(TORE_WORDS)
    static void minutesTearsARustyOneByHalf() {
        for (int coupling = 1; coupling <= 9; coupling++) {
            for (int steam = 1; steam <= 9; steam++) {
                comes("RUSTY, COUPLING " + coupling, "e9900 id r1" + coupling + " w99", things(), steam,
                    2 * steam - 2 > coupling / 2 ? TORE : TAKEN_UP);
            }
        }
    }

    @Says(TORE_WORDS)
    static void minutesTearsByTheLoadWithTheNextOne() {
        comes("6 on 2 and 3, it HOLDS 1", "e9900 id w29 w31 w99", things(1), 3, TAKEN_UP);
        comes("8 on 2 and 3, it HOLDS 1", "e9900 id w29 w31 w99", things(1), 4, TORE);
        comes("8 on 2 and 3, it HOLDS 3", "e9900 id w29 w33 w99", things(1), 4, TAKEN_UP);
        comes("8 on 2 and 3, it HOLDS 2", "e9900 id w29 w32 w99", things(1), 4, TORE);
        comes("8 on the sixth, it HOLDS 8", "e9900 id p19 p19 p19 p19 p19 p18", things(0, 0, 0, 0, 0, 13), 4, TAKEN_UP);
        comes("8 on the sixth, it HOLDS 7", "e9900 id p19 p19 p19 p19 p19 p17", things(0, 0, 0, 0, 0, 13), 4, TORE);
    }

    @Says("it TEARS: that one and all behind it are lost")
    static void minutesTornOnesAreLost() {
        String six = "e9900 id p19 p19 p19 p19 p19 p19";
        for (int held = 0; held < 5; held++) {
            WheelsSlip x = train(six);
            for (int i = 0; i < held; i++) {
                x.go(0);
            }
            due.is("it TEARS", x.go(9), TORE);
            due.is("WAGONS left", x.count(0), held);
            due.is("TAKEN UP", taken(x), held);
            due.is("one left", x.wagon(held - 1, 0), held == 0 ? Make.BAD : 1);
            due.is("a lost one", x.wagon(held, 0), Make.BAD);
            due.is("a lost one's LOAD", x.load(held + 1), Make.BAD);
        }
        WheelsSlip x = train(six, 0, 0, 0, 0, 0, 13);
        due.is("the last TEARS", x.go(9), TORE);
        due.is("WAGONS left", x.count(0), 5);
    }

    @Says("(the BRAKE, too: it is OFF, and stays so;")
    static void minutesTornBrakeIsLost() {
        WheelsSlip x = train("e9900 id b19 w11 w11", 2);
        due.is("ON", brake(x), 1);
        due.is("LOAD, ON", x.load(1), 4);
        due.is("it TEARS", x.go(8), TORE);
        due.is("OFF", brake(x), 0);
        due.is("LOAD, OFF", x.load(1), 1);
        Scenes.Scene torn = Scenes.train("e9900 id b19 w11 w11", 2, 8);
        due.state("14 can't be", torn, y -> y.go(14));
        due.state("14 can't be behind 13", Scenes.train("e9900 id b19 w11 w11", 2, 8, 13), y -> y.go(14));
        due.state("14 can't be behind 12, 1", Scenes.train("e9900 id b19 w11 w11", 2, 8, 12, 1), y -> y.go(14));
        due.is("13 can be", x.go(13), OTHER);
        due.is("OFF still", brake(x), 0);
        x = train("e9900 id w21 w99", 13);
        x.go(9);
        due.is("lost, if it was OFF", x.go(14), Make.STATE);
    }

    @Says("nothing else comes of it).")
    static void minutesTornNothingElseComesOfIt() {
        WheelsSlip x = train("e9900 id w29 w21 w29", 1, 13);
        due.is("it TEARS", x.go(8), TORE);
        due.is("all left are TAKEN UP, GONE not", gone(x), 0);
        due.is("TAKEN UP stays", taken(x), 1);
        due.is("HOLLOW not", hollow(x), 0);
        due.is("STEAM 1 less alone", steam(x), 7);
        x = train("e9900 id w21 w29", 13);
        due.is("it TEARS, none left", x.go(9), TORE);
        due.is("GONE not", gone(x), 0);
        due.is("GONE then", x.go(0), WENT);
    }

    @Says("If all were TAKEN UP ahead of it")
    static void minutesGoesIfAllWereTakenUpAhead() {
        WheelsSlip x = train("e9900 id w29 w29", 13, 1);
        due.is("the last TAKEN UP", x.go(2), TAKEN_UP);
        due.is("not GONE in that MINUTE", gone(x), 0);
        due.is("GONE in the next", x.go(2), WENT);
        due.is("GONE", gone(x), 1);
        due.is("GONE on", x.go(2), WENT);
        due.is("1 more", gone(x), 2);
        x.go(12);
        due.is("BACK: not all are", x.go(1), TAKEN_UP);
        due.is("GONE stays", gone(x), 2);
    }

    @Says("(none has to be, if there is none)")
    static void minutesGoesWithoutWagons() {
        comes("by 0", "e9900 id", things(13), 0, WENT);
        comes("by 9", "e9900 id", things(13), 9, WENT);
        comes("the BRAKE ON", "e9900 id", things(), 9, IDLE);
        comes("all torn off", "e9900 id w11", things(13, 9), 0, WENT);
        comes("SLIPS", "e1900 id", things(13), 2, SLIPPED);
    }

    @Says("and it PULLS no less than their LOAD, and the BRAKE is OFF, it is 1 more GONE.")
    static void minutesGoesByPullAndBrake() {
        comes("as much as the LOAD", "e9900 id w49", things(13, 2), 2, WENT);
        comes("1 more", "e9900 id w39", things(13, 2), 2, WENT);
        comes("1 less", "e9900 id w59", things(13, 3), 2, ROLLED);
        comes("the BRAKE ON", "e9900 id w49", things(13, 2, 14), 2, IDLE);
        comes("the BRAKE ON, more than enough", "e9900 id w49", things(13, 2, 14), 8, IDLE);
        comes("BRAKED, the LOAD is that of a BRAKE OFF", "e9900 id b49", things(13, 2), 2, WENT);
        comes("by more than it HOLDS, as it is TAKEN UP", "e9900 id w11", things(13, 1), 8, WENT);
    }

    @Says("If it PULLS less than the LOAD of those TAKEN UP, and the BRAKE is OFF, it ROLLS BACK: none is TAKEN UP.")
    static void minutesRollsBack() {
        comes("as much", "e9900 id w29 w99 w99", things(1, 13), 1, IDLE);
        comes("less", "e9900 id w29 w99 w99", things(1, 13), 0, ROLLED);
        comes("1 less", "e9900 id w39 w99 w99", things(2, 13), 1, ROLLED);
        comes("the BRAKE ON", "e9900 id w29 w99 w99", things(1), 0, IDLE);
        comes("none TAKEN UP", "e9900 id w29 w99 w99", things(13), 0, IDLE);
        comes("those TAKEN UP WEIGH nothing", "e9900 id p19 w99", things(13, 0), 0, IDLE);
        comes("two of three", "e9900 id w29 w29 w99", things(1, 2, 13), 1, ROLLED);
        comes("all", "e9900 id w29 w29", things(13, 1, 2), 1, ROLLED);
        comes("what SLIPS does not", "e1910 il w19 w99", things(10, 1, 13), 2, SLIPPED);
        comes("with the BRAKE lost", "e9900 id w29 w11", things(1, 13, 8), 0, ROLLED);
        WheelsSlip x = train("e9900 id w29 w29 w99", 1, 2, 13, 1);
        due.is("none is TAKEN UP", taken(x), 0);
        due.is("WAGON 0", Make.wagon(x, 0, 5), 0);
        due.is("none is lost", x.count(0), 3);
        due.is("the BRAKE is not lost", x.go(14), OTHER);
        x = train("e9900 id w29", 13, 1, 1, 0);
        due.is("GONE stays", gone(x), 1);
    }

    private static void sandedNoMore(String what, String signs, int[] ahead, int thing, int came) {
        WheelsSlip x = train(signs, ahead);
        due.is(what + ", SAND", x.go(10), OTHER);
        due.is(what + ", SANDED", sanded(x), 1);
        due.is(what, x.go(thing), came);
        due.is(what + ", SANDED no more", sanded(x), 0);
    }

    @Says(SANDED_WORDS)
    static void minutesSandedNoMoreInEachCase() {
        sandedNoMore("none given", "e9910 id w99 w99", things(), 0, IDLE);
        sandedNoMore("some given", "e9910 id w99 w99", things(), 1, IDLE);
        sandedNoMore("it SLIPS", "e1910 il w99 w99", things(), 9, SLIPPED);
        sandedNoMore("TAKEN UP", "e9910 id w29 w99", things(), 1, TAKEN_UP);
        sandedNoMore("it TEARS", "e9910 id w11 w99", things(), 9, TORE);
        sandedNoMore("it goes", "e9910 id", things(13), 1, WENT);
        sandedNoMore("it ROLLS BACK", "e9910 id w29 w99", things(1, 13), 0, ROLLED);
    }

    @Says("10 it is SANDED: 1 less SAND (there has to be some).")
    static void minutes10Sands() {
        for (int there = 0; there <= 9; there++) {
            WheelsSlip x = train("e90" + there + "0 id");
            for (int left = there - 1; left >= 0; left--) {
                due.is("go(10)", x.go(10), OTHER);
                due.is("SAND", sand(x), left);
                due.is("SANDED", sanded(x), 1);
            }
            int[] all = new int[there];
            Arrays.fill(all, 10);
            due.state("no SAND of " + there, Scenes.train("e90" + there + "0 id", all), y -> y.go(10));
        }
        WheelsSlip x = train("e9990 id w99 w99", 10, 11, 12, 13, 14);
        due.is("SANDED over other THINGS", sanded(x), 1);
    }

    @Says("11 the BLOWER: 2 more STEAM, 9 at most.")
    static void minutes11Blows() {
        int[] then = {2, 3, 4, 5, 6, 7, 8, 9, 9, 9};
        for (int there = 0; there <= 9; there++) {
            WheelsSlip x = train("e9" + there + "00 id");
            due.is("go(11)", x.go(11), OTHER);
            due.is("STEAM of " + there, steam(x), then[there]);
        }
    }

    @Says("12 BACK: none is TAKEN UP.")
    static void minutes12Backs() {
        for (int held = 0; held <= 3; held++) {
            WheelsSlip x = train("e9900 id p19 p19 p19", 13);
            for (int i = 0; i < held; i++) {
                x.go(0);
            }
            due.is("TAKEN UP", taken(x), held);
            due.is("go(12)", x.go(12), OTHER);
            due.is("none TAKEN UP of " + held, taken(x), 0);
            due.is("none is lost", x.count(0), 3);
            due.is("STEAM stays", steam(x), 9);
            due.is("the BRAKE stays", brake(x), 0);
        }
        due.is("the BRAKE ON stays", brake(train("e9900 id p19 p19 p19", 0, 12)), 1);
    }

    @Says("13 the BRAKE is OFF (also, if it was, or is lost).")
    static void minutes13BrakeOff() {
        WheelsSlip x = train("e9900 id w99");
        due.is("go(13), it was ON", x.go(13), OTHER);
        due.is("OFF", brake(x), 0);
        due.is("go(13), it was OFF", x.go(13), OTHER);
        due.is("OFF still", brake(x), 0);
        x = train("e9900 id w11 w11", 9);
        due.is("go(13), it is lost", x.go(13), OTHER);
        due.is("OFF, lost", brake(x), 0);
        due.is("lost still", x.go(14), Make.STATE);
    }

    @Says("14 it is ON (it is not lost).")
    static void minutes14BrakeOn() {
        WheelsSlip x = train("e9900 id b99");
        due.is("go(14), it was ON", x.go(14), OTHER);
        due.is("ON", brake(x), 1);
        x.go(13);
        due.is("go(14), it was OFF", x.go(14), OTHER);
        due.is("ON again", brake(x), 1);
        due.is("BRAKED", x.load(1), 12);
        due.state("it is lost", Scenes::torn, y -> y.go(14));
        x = train("e9900 id w11 w11", 9);
        x.undo(0);
        due.is("not lost, undone", x.go(14), OTHER);
    }

    @Says("These are DEEDS (60 at most).")
    static void minutes60DeedsAtMost() {
        WheelsSlip x = train("e9990 id");
        for (int i = 0; i < 60; i++) {
            due.is("DEEDS", x.count(2), i);
            due.is("DEED " + i, x.go(12), OTHER);
        }
        due.is("DEEDS", x.count(2), 60);
        for (int k = 0; k < 15; k++) {
            int thing = k;
            if (thing < 7 || thing > 9) {
                due.full("DEED 60: go(" + thing + ")", Scenes::full, y -> y.go(thing));
            }
        }
        x.undo(59);
        due.is("the 60th again", x.go(13), OTHER);
        due.is("no 61st", x.go(13), Make.FULL);
    }

    @Says("A PLAN is a ROW of THINGS.")
    static void minutesPlanIsARowOfThings() {
        for (int k = 0; k < 15; k++) {
            int thing = k;
            WheelsSlip x = Scenes.made(Scenes.busyAnd(y -> y.lay(0, 0, thing)));
            due.holds("run of " + thing, x.run(0) >= 0);
            due.is("odds of " + thing, x.odds(0, 4, 4), 1);
        }
        int[] none = {-1, 15, Integer.MIN_VALUE, Integer.MAX_VALUE};
        for (int thing : none) {
            Scenes.Scene laid = Scenes.busyAnd(y -> y.lay(0, 0, thing));
            due.finds("run of " + thing, laid, x -> x.run(0), Make.UNLIKE);
            due.finds("odds of " + thing, laid, x -> x.odds(0, 4, 4), Make.UNLIKE);
        }
    }

    @Says("It STARTS, if more is GONE then.")
    static void minutesStartsIfMoreIsGone() {
        Scenes.Scene going = Scenes.train("e9900 id", 13, 0, 0);
        WheelsSlip x = Scenes.made(going);
        x.row(0, 0);
        x.odds(0, 12, 0);
        due.is("an empty PLAN: not more than was", x.upper(), 0);
        due.is("ways(0)", x.ways(0), 0);
        due.none("shortest(0, 1)", going, y -> y.shortest(0, 1));
        due.none("stay(0)", going, y -> y.stay(0));
        Make.row(x, 0, 14, 0);
        x.odds(0, 12, 0);
        due.is("none more than was", x.upper(), 0);
        Make.row(x, 0, 0, 14);
        x.odds(0, 12, 0);
        due.is("one more, the BRAKE ON then", x.upper(), 1);
        due.is("shortest(4, 1)", x.shortest(4, 1), 1);
        due.tells("ways(1): 0 to 9", x, x.ways(1), 10, 10);
    }
}
