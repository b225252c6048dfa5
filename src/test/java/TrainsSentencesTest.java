/** Terms, 1: ROWS, TEXTS, the small language of TRAINS, KINDS of WAGONS. */
public final class TrainsSentencesTest {
    private static final Sentences due = new Sentences(TrainsSentencesTest.class);
    private static final String FIGURES = "0123456789";
    private static final String FROM_1 = "123456789";
    private static final String LETTERS = "whsprb";

    public static void main(String[] args) throws IllegalAccessException {
        due.hold();
    }

    private static int fault(String signs) {
        WheelsSlip x = new WheelsSlip();
        Make.text(x, 0, signs);
        return x.fault(0);
    }

    private static void faultIs(String signs, int want) {
        due.is("fault of \"" + signs + "\"", fault(signs), want);
    }

    /** Of all 256 bytes at one place within an item. */
    private static void onlyTheseGoOn(String ahead, String these, String behind) {
        for (char sign = 0; sign < 256; sign++) {
            String signs = ahead + sign + behind;
            due.is("fault with the byte " + (int) sign + " of \"" + signs + "\"", fault(signs),
                these.indexOf(sign) >= 0 ? Make.NONE : ahead.length());
        }
    }

    /** Of all bytes but the blank at the first place of an item. */
    private static void onlyTheseBegin(String ahead, String these, String behind) {
        for (char sign = 0; sign < 256; sign++) {
            if (sign != ' ') {
                String signs = ahead + sign + behind;
                due.is("fault with the byte " + (int) sign + " of \"" + signs + "\"", fault(signs),
                    these.indexOf(sign) >= 0 ? Make.NONE : ahead.length());
            }
        }
    }

    @Says("ROWS 0 .. 5 are rows")
    static void trainsRows0To5() {
        WheelsSlip x = new WheelsSlip();
        for (int r = 0; r <= 5; r++) {
            due.is("row(" + r + ", 1)", x.row(r, 1), 1);
            due.tells("lay(" + r + ", 0, .)", x, x.lay(r, 0, 10 + r), 1, 0);
        }
        for (int r = 0; r <= 5; r++) {
            due.tells("at(" + r + ", 0): its own", x, x.at(r, 0), 1, 10 + r);
        }
        due.badOutside("row", 0, 5, (y, r) -> y.row(r, 1));
        due.badOutside("lay", 0, 5, (y, r) -> y.lay(r, 0, 1));
        due.badOutside("at", 0, 5, (y, r) -> y.at(r, 0));
        due.badOutside("tear", 0, 5, WheelsSlip::tear);
        due.badOutside("copy from", 0, 5, (y, r) -> y.copy(r, 0, 0, 0, 1));
        due.badOutside("copy to", 0, 5, (y, r) -> y.copy(0, 0, r, 0, 1));
        due.badOutside("mean", 0, 5, WheelsSlip::mean);
        due.badOutside("run", 0, 5, WheelsSlip::run);
        due.badOutside("shortest", 0, 5, (y, r) -> y.shortest(4, r));
        due.badOutside("odds", 0, 5, (y, r) -> y.odds(r, 4, 4));
        due.badOutside("weights", 0, 5, WheelsSlip::weights);
        due.badOutside("lies", 0, 5, (y, r) -> y.lies(r, 1));
    }

    @Says("rows of 0 to 40 ints")
    static void trainsRowsOf0To40() {
        for (int n = 0; n <= 40; n++) {
            WheelsSlip x = new WheelsSlip();
            due.is("row(2, " + n + ")", x.row(2, n), n);
            int size = n;
            if (n > 0) {
                due.tells("lay at " + (n - 1), x, x.lay(2, n - 1, 9), 1, 0);
            }
            due.finds("at " + n, y -> y.row(2, size), y -> y.at(2, size), Make.BEYOND);
        }
        due.bad("row(2, 41)", y -> y.row(2, 41));
        due.finds("row(2, -1)", y -> y.row(2, -1), Make.SIZE);
    }

    @Says("rows of 0 to 40 ints")
    static void trainsRowsOfInts() {
        WheelsSlip x = new WheelsSlip();
        int[] ints = {Integer.MIN_VALUE, Integer.MIN_VALUE + 1, -129, -1, 0, 1, 255, 65536, Integer.MAX_VALUE};
        x.row(5, 40);
        for (int i = 0; i < ints.length; i++) {
            x.lay(5, 31 + i, ints[i]);
        }
        for (int i = 0; i < ints.length; i++) {
            due.tells("at(5, " + (31 + i) + ")", x, x.at(5, 31 + i), 1, ints[i]);
        }
    }

    @Says("TEXTS 0 .. 3 rows")
    static void trainsTexts0To3() {
        WheelsSlip x = new WheelsSlip();
        for (int t = 0; t <= 3; t++) {
            due.is("text(" + t + ", 1)", x.text(t, 1), 1);
            due.is("put(" + t + ", 0, .)", x.put(t, 0, 10 + t), 1032);
        }
        for (int t = 0; t <= 3; t++) {
            due.is("put(" + t + ", 0, 0): its own", x.put(t, 0, 0), 1010 + t);
        }
        due.badOutside("text", 0, 3, (y, t) -> y.text(t, 1));
        due.badOutside("put", 0, 3, (y, t) -> y.put(t, 0, 1));
        due.badOutside("fault", 0, 3, WheelsSlip::fault);
        due.badOutside("train", 0, 3, WheelsSlip::train);
    }

    @Says("rows of 0 to 60 bytes")
    static void trainsTextsOf0To60() {
        for (int n = 0; n <= 60; n++) {
            WheelsSlip x = new WheelsSlip();
            due.is("text(2, " + n + ")", x.text(2, n), n);
            int size = n;
            if (n > 0) {
                due.is("put at " + (n - 1), x.put(2, n - 1, 9), 1032);
            }
            due.finds("put at " + n, y -> y.text(2, size), y -> y.put(2, size, 9), Make.BEYOND);
        }
        due.bad("text(2, 61)", y -> y.text(2, 61));
        due.finds("text(2, -1)", y -> y.text(2, -1), Make.SIZE);
    }

    @Says("rows of 0 to 60 bytes")
    static void trainsTextsOfBytes() {
        for (int v = -128; v <= 127; v++) {
            WheelsSlip x = new WheelsSlip();
            x.text(3, 60);
            x.put(3, 59, v);
            due.is("put: it was " + v, x.put(3, 59, 0), 1000 + v);
        }
    }

    @Says("or missing (at first)")
    static void trainsMissingAtFirst() {
        for (int k = 0; k < 6; k++) {
            int r = k;
            due.finds("at(" + r + ", 0)", Scenes::fresh, x -> x.at(r, 0), Make.NOTHING);
        }
        for (int k = 0; k < 4; k++) {
            int t = k;
            due.finds("put(" + t + ", 0, 1)", Scenes::fresh, x -> x.put(t, 0, 1), Make.NOTHING);
        }
        due.is("a missing one is none of size 0", Scenes.made(x -> x.row(0, 0)).count(5), 1);
    }

    @Says("A TRAIN (without an engine, WAGONS at first)")
    static void trainsWithoutEngineAndWagonsAtFirst() {
        for (int k = 0; k < 10; k++) {
            int what = k;
            due.state("engine(" + what + ")", Scenes::trainless, x -> x.engine(what));
        }
        WheelsSlip x = Scenes.made(Scenes::trainless);
        due.is("WAGONS", x.count(0), 0);
        due.is("RAILS", x.count(1), 0);
        due.is("LOAD of all", x.count(3), 0);
        due.is("load(0)", x.load(0), 0);
        due.bad("load(1)", Scenes::trainless, y -> y.load(1));
        due.bad("wagon(0, 0)", Scenes::trainless, y -> y.wagon(0, 0));
        due.bad("mark(0, 1)", Scenes::trainless, y -> y.mark(0, 1));
        due.none("worst()", Scenes::trainless, WheelsSlip::worst);
    }

    @Says("is a TEXT: blanks (32) ahead, between, behind as many as wanted, none within items.")
    static void trainsBlanksAhead() {
        for (int n = 0; n <= 53; n++) {
            faultIs(" ".repeat(n) + "e1000id", Make.NONE);
        }
        faultIs(" ".repeat(53) + "e100xid", 57);
    }

    @Says("is a TEXT: blanks (32) ahead, between, behind as many as wanted, none within items.")
    static void trainsBlanksBetween() {
        for (int n = 0; n <= 10; n++) {
            String blanks = " ".repeat(n);
            String signs = "e1000" + blanks + "id " + blanks + "h11" + blanks + "s11" + blanks + "p11";
            faultIs(signs, Make.NONE);
            WheelsSlip x = Scenes.made(Scenes.train(signs));
            due.is("WAGONS of \"" + signs + "\"", x.count(0), 3);
            due.is("RAILS of \"" + signs + "\"", x.count(1), 1);
        }
        faultIs("e1000" + " ".repeat(53) + "id", Make.NONE);
        faultIs("e1000id" + " ".repeat(50) + "w11", Make.NONE);
        faultIs("e1000id w11" + " ".repeat(46) + "w11", Make.NONE);
    }

    @Says("is a TEXT: blanks (32) ahead, between, behind as many as wanted, none within items.")
    static void trainsBlanksBehind() {
        for (int n = 0; n <= 53; n++) {
            faultIs("e1000id" + " ".repeat(n), Make.NONE);
        }
        for (int n = 0; n <= 49; n++) {
            faultIs("e1000id w11" + " ".repeat(n), Make.NONE);
        }
        faultIs("e1000id w11w11w11w11w11w11" + " ".repeat(34), Make.NONE);
    }

    @Says("is a TEXT: blanks (32) ahead, between, behind as many as wanted, none within items.")
    static void trainsBlanksNoneWithinItems() {
        faultIs("e 1000 id w11", 1);
        faultIs("e1 000 id w11", 2);
        faultIs("e10 00 id w11", 3);
        faultIs("e100 0 id w11", 4);
        faultIs("e1000 i d w11", 7);
        faultIs("e1000 id d w11", 9);
        faultIs("e1000 id l w11", 9);
        faultIs("e1000 id w 11", 10);
        faultIs("e1000 id w1 1", 11);
        faultIs("e1000 id h11 s1 1", 15);
    }

    @Says("blanks (32)")
    static void trainsOtherSignsAreNoBlanks() {
        char[] like = {0, 9, 10, 13, 31, 33, 95, 160};
        for (char sign : like) {
            faultIs(sign + "e1000id", 0);
            faultIs("e1000" + sign + "id", 5);
            faultIs("e1000id" + sign, 7);
            faultIs("e1000id w11" + sign, 11);
        }
    }

    @Says("The first item is e (101)")
    static void trainsFirstItemIsE() {
        onlyTheseBegin("", "e", "1000id");
        onlyTheseBegin("  ", "" + (char) 101, "1000 id h11");
        faultIs("id e1000", 0);
        faultIs("w11 e1000 id", 0);
        faultIs("E1000id", 0);
        faultIs("e1000 e1000 id", 6);
    }

    @Says("the WEIGHT (1 .. 9)")
    static void trainsWeight1To9() {
        onlyTheseGoOn("e", FROM_1, "000id");
        for (int weight = 1; weight <= 9; weight++) {
            due.is("WEIGHT", Make.engine(Scenes.made(Scenes.train("e" + weight + "000id")), 0), weight);
        }
    }

    @Says("the STEAM (0 .. 9)")
    static void trainsSteam0To9() {
        onlyTheseGoOn("e1", FIGURES, "00id");
        for (int steam = 0; steam <= 9; steam++) {
            due.is("STEAM", Make.engine(Scenes.made(Scenes.train("e1" + steam + "00id")), 1), steam);
        }
    }

    @Says("the SAND (0 .. 9)")
    static void trainsSand0To9() {
        onlyTheseGoOn("e10", FIGURES, "0id");
        for (int sand = 0; sand <= 9; sand++) {
            due.is("SAND", Make.engine(Scenes.made(Scenes.train("e10" + sand + "0id")), 2), sand);
        }
    }

    @Says("the HILL (0 .. 3)")
    static void trainsHill0To3() {
        onlyTheseGoOn("e100", "0123", "id");
        for (int hill = 0; hill <= 3; hill++) {
            due.is("HILL", Make.engine(Scenes.made(Scenes.train("e100" + hill + "id")), 3), hill);
        }
    }

    @Says("one figure each. Then one item i (105)")
    static void trainsEngineOneFigureEach() {
        faultIs("e10000 id", 5);
        faultIs("e10003id", 5);
        faultIs("e100id", 4);
        faultIs("e1000.id", 5);
        faultIs("e-1000id", 1);
    }

    @Says("Then one item i (105) and RAILS")
    static void trainsThenOneItemI() {
        onlyTheseBegin("e1000 ", "i", "d");
        onlyTheseBegin("e1000", "" + (char) 105, "d w11");
        faultIs("e1000 w11 id", 6);
        faultIs("e1000 id id", 9);
        faultIs("e1000 idid", 8);
        faultIs("e1000 id w11 id", 13);
        faultIs("e1000 I", 6);
    }

    @Says("minute by minute (1 to 6 letters, as many as stand together:")
    static void trainsRails1To6() {
        faultIs("e1000 i", 7);
        faultIs("e1000 i ", 7);
        faultIs("e1000 i h11", 7);
        for (int n = 1; n <= 6; n++) {
            faultIs("e1000 i" + "d".repeat(n), Make.NONE);
            faultIs("e1000 i" + "dwl".repeat(2).substring(0, n) + " w11", Make.NONE);
            due.is("RAILS", Scenes.made(Scenes.train("e1000 i" + "ldw".repeat(2).substring(0, n) + " w11")).count(1), n);
        }
        faultIs("e1000 iddddddd", 13);
        faultIs("e1000 illlllll w11", 13);
    }

    @Says("as many as stand together:")
    static void trainsRailsAsManyAsStandTogether() {
        faultIs("e1000 idw11", 9);
        due.is("RAILS of iwww h11", Scenes.made(Scenes.train("e1000 iwww h11")).count(1), 3);
        due.is("RAILS of idh11", Scenes.made(Scenes.train("e1000 idh11")).count(1), 1);
        due.is("RAILS of iw w11", Scenes.made(Scenes.train("e1000 iw w11")).count(1), 1);
        due.is("RAILS of iww s11, the w a RAIL", Scenes.made(Scenes.train("e1000 iww s11")).count(1), 2);
        faultIs("e1000 iw ww11", 10);
    }

    @Says("d (100) dry, w (119) damp, l (108) leaves;")
    static void trainsRailLetters() {
        onlyTheseGoOn("e1000 i", "dwl", "");
        onlyTheseGoOn("e1000 i", "" + (char) 100 + (char) 119 + (char) 108, " h11");
        int[] grips = {3, 2, 1};
        for (int i = 0; i < 3; i++) {
            WheelsSlip x = Scenes.made(Scenes.train("e1000 i" + "dwl".charAt(i)));
            due.tells("grip on " + "dwl".charAt(i), x, x.grip(), grips[i], grips[i] + 3);
        }
    }

    @Says("after the last one the first again")
    static void trainsAfterTheLastRailTheFirst() {
        String[] rails = {"l", "dw", "wdl", "dlwl", "ddwll", "ldwdwl"};
        for (String letters : rails) {
            WheelsSlip x = Scenes.made(Scenes.train("e9000 i" + letters));
            for (int minute = 0; minute < 60; minute++) {
                int factor = 3 - "dwl".indexOf(letters.charAt(minute % letters.length()));
                due.is("grip on " + letters + " in MINUTE " + minute, x.grip(), 9 * factor);
                x.go(12);
            }
            due.is("grip on " + letters + " in MINUTE 60", x.grip(),
                9 * (3 - "dwl".indexOf(letters.charAt(60 % letters.length()))));
        }
    }

    @Says("Then WAGONS (6 at most; 0, 1, .. as they come): a letter, the TONS")
    static void trainsWagons6AtMost() {
        for (int n = 0; n <= 6; n++) {
            StringBuilder signs = new StringBuilder("e1000 id ");
            for (int i = 0; i < n; i++) {
                signs.append('h').append(i + 1).append(9 - i);
            }
            faultIs(signs.toString(), Make.NONE);
            WheelsSlip x = new WheelsSlip();
            Make.text(x, 0, signs.toString());
            due.is("train(0)", x.train(0), n);
            for (int i = 0; i < n; i++) {
                due.tells("as they come: TONS of " + i, x, x.wagon(i, 1), 1, i + 1);
                due.tells("as they come: it HOLDS, " + i, x, x.wagon(i, 3), 1, 9 - i);
            }
            due.is("none behind", x.wagon(n, 1), Make.BAD);
        }
        faultIs("e1000 id h11h11h11h11h11h11h11", 27);
        faultIs("e1000 id h11h11h11h11h11h11  w11", 29);
    }

    @Says({"the TONS (1 .. 9)", "one figure each. A FAULT"})
    static void trainsTons1To9() {
        onlyTheseGoOn("e1000 id w", FROM_1, "1");
        onlyTheseGoOn("e1000 id s11 b", FROM_1, "9 p11");
        for (int tons = 1; tons <= 9; tons++) {
            due.is("TONS", Make.wagon(Scenes.made(Scenes.train("e1000 id w" + tons + "1")), 0, 1), tons);
        }
    }

    @Says({"the COUPLING (1 .. 9)", "one figure each. A FAULT"})
    static void trainsCoupling1To9() {
        onlyTheseGoOn("e1000 id w1", FROM_1, "");
        onlyTheseGoOn("e1000 id s11 b9", FROM_1, " p11");
        for (int coupling = 1; coupling <= 9; coupling++) {
            due.is("COUPLING", Make.wagon(Scenes.made(Scenes.train("e1000 id w1" + coupling)), 0, 3), coupling);
        }
        faultIs("e1000 id w111", 12);
        faultIs("e1000 id w1100", 12);
    }

    @Says("A FAULT is the first place at which it can't go on so")
    static void trainsFaultIsTheFirstPlace() {
        faultIs("x1x00 ixx w0", 0);
        faultIs("ex000 ixx w0", 1);
        faultIs("e1x00 ixx w0", 2);
        faultIs("e10x0 ixx w0", 3);
        faultIs("e100x ixx w0", 4);
        faultIs("e1000 xxx w0", 6);
        faultIs("e1000 ixx w0", 7);
        faultIs("e1000 idx w0", 8);
        faultIs("e1000 idd w0", 11);
        faultIs("e1000 idd w1x x", 12);
        faultIs("e1000 idd w11 x", 14);
    }

    @Says("a letter, a figure that is none such")
    static void trainsFaultOfASignThatIsNoneSuch() {
        onlyTheseBegin("e1000 id ", LETTERS, "11");
        for (char sign = 0; sign < 256; sign++) {
            String signs = "e1000 id w11" + sign;
            boolean more = LETTERS.indexOf(sign) >= 0;
            due.is("fault with the byte " + (int) sign + " behind a WAGON", fault(signs),
                sign == ' ' ? Make.NONE : more ? 13 : 12);
            String rails = "e1000 id" + sign;
            boolean rail = "dwl ".indexOf(sign) >= 0;
            due.is("fault with the byte " + (int) sign + " behind a RAIL", fault(rails),
                rail ? Make.NONE : LETTERS.indexOf(sign) >= 0 ? 9 : 8);
        }
    }

    @Says("a seventh RAIL (w aside: that is a WAGON then)")
    static void trainsFaultOfASeventhRail() {
        faultIs("e1000 iddddddd", 13);
        faultIs("e1000 iddddddl", 13);
        faultIs("e1000 idddddddd", 13);
        faultIs("e1000 idddddd d", 14);
        faultIs("e1000 iddddddl w11", 13);
    }

    @Says("(w aside: that is a WAGON then)")
    static void trainsSeventhWIsAWagon() {
        faultIs("e1000 iddddddw11", Make.NONE);
        WheelsSlip x = Scenes.made(Scenes.train("e1000 iwwwwwww34h11"));
        due.is("RAILS", x.count(1), 6);
        due.is("WAGONS", x.count(0), 2);
        due.tells("its KIND", x, x.wagon(0, 0), 1, 0);
        due.tells("its TONS", x, x.wagon(0, 1), 1, 3);
        due.tells("its COUPLING", x, x.wagon(0, 3), 1, 4);
        faultIs("e1000 iddddddw", 14);
        faultIs("e1000 iddddddw1", 15);
        faultIs("e1000 iddddddww11", 14);
        faultIs("e1000 iddddddw01", 14);
        faultIs("e1000 iwwwwwww", 14);
        faultIs("e1000 iwwwwwww ", 14);
    }

    @Says("a seventh WAGON: its place;")
    static void trainsFaultOfASeventhWagon() {
        String six = "e1000 id w11h11s11p11r11b11";
        faultIs(six, Make.NONE);
        faultIs(six + "w11", 27);
        faultIs(six + "  w11", 29);
        faultIs(six + "x", 27);
        for (int i = 0; i < LETTERS.length(); i++) {
            faultIs(six + " " + LETTERS.charAt(i), 28);
        }
    }

    @Says("the TEXT's size, if its end comes too early, or there are blanks alone).")
    static void trainsFaultOfAnEndTooEarly() {
        String whole = " e1000  iddd  w11 h11";
        for (int n = 0; n <= whole.length(); n++) {
            boolean well = n >= 10 && n <= 14 || n == 17 || n == 18 || n == 21;
            faultIs(whole.substring(0, n), well ? Make.NONE : n);
        }
        faultIs("e100", 4);
        faultIs("e1000" + " ".repeat(55), 60);
        faultIs("e1000id w11" + " ".repeat(47) + "w1", 60);
    }

    @Says("or there are blanks alone).")
    static void trainsFaultOfBlanksAlone() {
        for (int n = 0; n <= 60; n++) {
            faultIs(" ".repeat(n), n);
        }
    }

    @Says("KINDS of WAGONS and letters: 0 WAGON (w, 119), 1 HEAVY (h, 104; a WAGON), 2 SLACK (s, 115; a WAGON), "
        + "3 PUSHED (p, 112; a WAGON), 4 RUSTY (r, 114; a HEAVY), 5 BRAKED (b, 98; a SLACK).")
    static void trainsKindsAndLetters() {
        char[] letters = {119, 104, 115, 112, 114, 98};
        for (int kind = 0; kind < 6; kind++) {
            WheelsSlip x = Scenes.made(Scenes.train("e1000 id " + letters[kind] + "11"));
            due.tells("KIND of " + letters[kind], x, x.wagon(0, 0), 1, kind);
        }
        for (int kind = 6; kind < 12; kind++) {
            faultIs("e1000 id " + Character.toUpperCase(letters[kind - 6]) + "11", 9);
        }
    }

    @Says({"4 RUSTY (r, 114; a HEAVY)", "5 BRAKED (b, 98; a SLACK)."})
    static void trainsKindsThatAreOfAnother() {
        String of = "whsprb";
        String[] are = {"", "hr", "sb", "p", "r", "b"};
        for (int k = 1; k < 6; k++) {
            for (int i = 0; i < 6; i++) {
                int kind = k;
                Scenes.Scene one = Scenes.train("e1000 id " + of.charAt(i) + "99 w99");
                if (are[k].indexOf(of.charAt(i)) >= 0) {
                    due.holds(of.charAt(i) + " is of KIND " + k, Scenes.made(one).mark(0, kind) >= 0);
                } else {
                    due.finds(of.charAt(i) + " is not of KIND " + k, one, x -> x.mark(0, kind), Make.UNLIKE);
                }
            }
        }
    }

    private static void weighs(String wagon, int hill, int on, int off) {
        WheelsSlip x = Scenes.made(Scenes.train("e100" + hill + " id " + wagon));
        due.tells(wagon + " on " + hill + ", the BRAKE ON", x, x.wagon(0, 2), 1, on);
        x.go(13);
        due.tells(wagon + " on " + hill + ", the BRAKE OFF", x, x.wagon(0, 2), 1, off);
    }

    @Says("A WAGON WEIGHS its TONS;")
    static void trainsWagonWeighsItsTons() {
        for (int tons = 1; tons <= 9; tons++) {
            weighs("w" + tons + "1", 0, tons, tons);
            weighs("s" + tons + "1", 0, tons, tons);
        }
    }

    @Says("a HEAVY one (RUSTY, too) twice as much;")
    static void trainsHeavyWeighsTwice() {
        for (int tons = 1; tons <= 9; tons++) {
            weighs("h" + tons + "1", 0, 2 * tons, 2 * tons);
            weighs("r" + tons + "1", 0, 2 * tons, 2 * tons);
        }
    }

    @Says("a PUSHED one 2 less, 0 at least;")
    static void trainsPushedWeighs2Less() {
        weighs("p11", 0, 0, 0);
        weighs("p21", 0, 0, 0);
        for (int tons = 3; tons <= 9; tons++) {
            weighs("p" + tons + "1", 0, tons - 2, tons - 2);
        }
    }

    @Says("a BRAKED one 3 more, while the BRAKE is ON;")
    static void trainsBrakedWeighs3MoreWhileOn() {
        for (int tons = 1; tons <= 9; tons++) {
            weighs("b" + tons + "1", 0, tons + 3, tons);
        }
        WheelsSlip x = Scenes.made(Scenes.train("e9900 id b19 w11 w11", 13, 14));
        due.tells("ON again", x, x.wagon(0, 2), 1, 4);
        Make.go(x, 2, 8);
        due.is("it TORE", x.count(0), 1);
        due.tells("the BRAKE lost", x, x.wagon(0, 2), 1, 1);
    }

    @Says("each the HILL more.")
    static void trainsEachTheHillMore() {
        for (int hill = 0; hill <= 3; hill++) {
            weighs("w51", hill, 5 + hill, 5 + hill);
            weighs("h51", hill, 10 + hill, 10 + hill);
            weighs("s51", hill, 5 + hill, 5 + hill);
            weighs("p51", hill, 3 + hill, 3 + hill);
            weighs("p11", hill, hill, hill);
            weighs("r51", hill, 10 + hill, 10 + hill);
            weighs("b51", hill, 8 + hill, 5 + hill);
        }
    }

    @Says("It HOLDS its COUPLING; a RUSTY one half of that, cut.")
    static void trainsHoldsItsCoupling() {
        int[] halves = {0, 0, 1, 1, 2, 2, 3, 3, 4, 4};
        for (int coupling = 1; coupling <= 9; coupling++) {
            for (int i = 0; i < LETTERS.length(); i++) {
                char letter = LETTERS.charAt(i);
                WheelsSlip x = Scenes.made(Scenes.train("e1003 id " + letter + "1" + coupling));
                due.tells(letter + "1" + coupling, x, x.wagon(0, 3), 1, letter == 'r' ? halves[coupling] : coupling);
            }
        }
    }

    @Says("It is SLACK by 0; a SLACK one (BRAKED, too) by 2.")
    static void trainsSlackBy0Or2() {
        for (int i = 0; i < LETTERS.length(); i++) {
            char letter = LETTERS.charAt(i);
            WheelsSlip x = Scenes.made(Scenes.train("e1003 id " + letter + "95"));
            due.tells("" + letter, x, x.wagon(0, 4), 1, letter == 's' || letter == 'b' ? 2 : 0);
        }
    }
}
