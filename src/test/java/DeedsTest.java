/** Promises 15 to 18: THINGS done, undone, kept, and the MINUTES that Terms 2 tells. */
public final class DeedsTest {
    private static final Due due = new Due("DeedsTest");

    public static void main(String[] args) {
        goRefused();
        slips();
        takesUp();
        tears();
        goes();
        rollsBack();
        otherThings();
        undo();
        keepAndOn();
        due.end();
    }

    private static void goRefused() {
        WheelsSlip x = new WheelsSlip();
        due.is("go(0) without a TRAIN", x.go(0), Make.STATE);
        due.is("go(-1), BAD ahead of STATE", x.go(-1), Make.BAD);
        due.is("go(15), BAD ahead of STATE", x.go(15), Make.BAD);
        x = Make.train("e1300 id w11");
        due.is("more STEAM than there is", x.go(4), Make.STATE);
        due.is("no SAND", x.go(10), Make.STATE);
        due.is("nothing is done", x.count(2), 0);
        for (int i = 0; i < 60; i++) {
            due.is("go(12)", x.go(12), 6);
        }
        due.is("60 DEEDS", x.go(12), Make.FULL);
        due.is("STATE ahead of FULL", x.go(10), Make.STATE);
        due.is("BAD ahead of FULL", x.go(15), Make.BAD);
        due.is("count(2)", x.count(2), 60);
        x.undo(59);
        due.is("go again", x.go(3), 1);
    }

    private static void slips() {
        WheelsSlip x = Make.train("e2910 iwl w49 w99");
        due.is("as much as GRIP", x.go(2), 2);
        due.is("STEAM 1 less", Make.engine(x, 1), 8);
        due.is("on leaves", x.go(2), 1);
        due.is("STEAM 2 less", Make.engine(x, 1), 6);
        due.is("HOLLOW", Make.engine(x, 4), 1);
        due.is("TAKEN UP stays", Make.engine(x, 7), 1);
        due.is("sanded", x.go(10), 6);
        due.is("SANDED", Make.engine(x, 5), 1);
        due.is("on leaves, SANDED", x.grip(), 4);
        due.is("it SLIPS", x.go(3), 1);
        due.is("SANDED no more", Make.engine(x, 5), 0);
        due.is("STEAM", Make.engine(x, 1), 4);
        due.is("it SLIPS", x.go(4), 1);
        due.is("it SLIPS", x.go(1), 1);
        due.is("STEAM 0 at least: even", Make.engine(x, 1), 0);
        due.is("GRIP", x.grip(), 0);
        due.is("STEAM 0 does not slip", x.go(0), 0);
        x = Make.train("e1100 il w11");
        due.is("it SLIPS", x.go(1), 1);
        due.is("STEAM 0 at least: odd", Make.engine(x, 1), 0);
        x = Make.train("e1900 il w11");
        for (int i = 0; i < 11; i++) {
            due.is("BLOWER", x.go(11), 6);
            due.is("it SLIPS", x.go(9), 1);
            due.is("HOLLOW", Make.engine(x, 4), Math.min(9, i + 1));
        }
        due.is("GRIP 0 at least", x.grip(), 0);
        due.is("GRIP with SAND", x.asked(), 3);
    }

    private static void takesUp() {
        WheelsSlip x = Make.train("e9900 id w21 s43 w29");
        due.is("too little", x.go(0), 0);
        due.is("STEAM 0 given: none less", Make.engine(x, 1), 9);
        due.is("just enough", x.go(1), 2);
        due.is("too little for the next", x.go(2), 0);
        due.is("STEAM 1 less", Make.engine(x, 1), 7);
        due.is("SLACK 2, it HOLDS 3", x.go(3), 2);
        due.is("the last, the BRAKE ON", x.go(4), 0);
        x.go(13);
        due.is("the last, the BRAKE OFF", x.go(4), 2);
        due.is("TAKEN UP", Make.engine(x, 7), 3);
        due.is("GONE", Make.engine(x, 9), 0);
    }

    private static void tears() {
        WheelsSlip x = Make.train("e9900 id w21 s44 b11 w99");
        x.go(2);
        due.is("by 2 more than it HOLDS 1", x.count(0), 0);
        due.is("the BRAKE is lost", x.go(14), Make.STATE);
        due.is("the BRAKE is OFF", Make.engine(x, 6), 0);
        due.is("13 can be", x.go(13), 6);
        x = Make.train("e9900 id w23 s42 w99");
        due.is("by 2, it HOLDS 3", x.go(2), 2);
        due.is("by 2 and SLACK 2, it HOLDS 2", x.go(4), 3);
        due.is("that one and all behind it are lost", x.count(0), 1);
        due.is("TAKEN UP stays", Make.engine(x, 7), 1);
        due.is("nothing else comes of it", Make.engine(x, 9), 0);
        due.is("STEAM 1 less", Make.engine(x, 1), 7);
        due.is("STEAM enough to go", x.go(1), 4);
        due.is("GONE", Make.engine(x, 9), 1);
        x = Make.train("e9900 id w25 r29 w99");
        due.is("it HOLDS one half, cut", x.go(1), 2);
        due.is("by 4", x.go(5), 2);
        due.is("undone", x.undo(1), 1);
        due.is("by 6", x.go(6), 3);
    }

    private static void goes() {
        WheelsSlip x = Make.train("e9900 id");
        due.is("the BRAKE ON", x.go(1), 0);
        x.go(13);
        due.is("none has to be TAKEN UP", x.go(0), 4);
        due.is("with STEAM", x.go(2), 4);
        due.is("GONE", Make.engine(x, 9), 2);
        x = Make.train("e9900 id w39");
        x.go(13);
        due.is("taken up", x.go(2), 2);
        due.is("GONE in the MINUTE behind it", x.go(2), 4);
        x.go(14);
        due.is("the BRAKE ON", x.go(2), 0);
        due.is("TAKEN UP stays", Make.engine(x, 7), 1);
        x.go(13);
        due.is("it PULLS less", x.go(1), 5);
        due.is("GONE stays", Make.engine(x, 9), 1);
        x.undo(2);
        due.is("GONE is undone", Make.engine(x, 9), 0);
        x = Make.train("e9900 id w19 b19");
        x.go(1);
        x.go(13);
        due.is("BRAKED, with the BRAKE OFF", x.go(1), 2);
        due.is("and on", x.go(1), 4);
    }

    private static void rollsBack() {
        WheelsSlip x = Make.train("e9900 id w29 w29");
        x.go(1);
        due.is("the BRAKE holds", x.go(0), 0);
        x.go(13);
        due.is("as much as LOAD", x.go(1), 0);
        due.is("less", x.go(0), 5);
        due.is("none is TAKEN UP", Make.engine(x, 7), 0);
        due.is("nothing to roll", x.go(0), 0);
        x = Make.train("e9900 id p19 w29");
        x.go(13);
        due.is("a WAGON without weight", x.go(0), 2);
        due.is("it does not roll", x.go(0), 0);
        x = Make.train("e1910 il w19 w99");
        x.go(10);
        x.go(1);
        x.go(13);
        due.is("what SLIPS does not roll", x.go(2), 1);
        due.is("TAKEN UP stays", Make.engine(x, 7), 1);
    }

    private static void otherThings() {
        WheelsSlip x = Make.train("e5520 id w19 w99");
        due.is("SAND", x.go(10), 6);
        due.is("SAND again, SANDED", x.go(10), 6);
        due.is("SAND 0", Make.engine(x, 2), 0);
        due.is("no SAND", x.go(10), Make.STATE);
        due.is("GRIP once 3 more", x.grip(), 18);
        due.is("BLOWER", x.go(11), 6);
        due.is("STEAM 2 more", Make.engine(x, 1), 7);
        due.is("BLOWER", x.go(11), 6);
        due.is("BLOWER at 9", x.go(11), 6);
        due.is("STEAM 9 at most", Make.engine(x, 1), 9);
        due.is("it is SANDED still", Make.engine(x, 5), 1);
        x.go(1);
        due.is("TAKEN UP", Make.engine(x, 7), 1);
        due.is("BACK", x.go(12), 6);
        due.is("none TAKEN UP", Make.engine(x, 7), 0);
        due.is("BRAKE ON, if it was", x.go(14), 6);
        due.is("BRAKE OFF", x.go(13), 6);
        due.is("BRAKE OFF, if it was", x.go(13), 6);
        due.is("OFF", Make.engine(x, 6), 0);
        due.is("BRAKE ON", x.go(14), 6);
        due.is("ON", Make.engine(x, 6), 1);
        due.is("MINUTES", Make.engine(x, 8), 11);
    }

    private static void undo() {
        WheelsSlip x = new WheelsSlip();
        due.is("undo(0) without a TRAIN", x.undo(0), 0);
        due.is("undo(1) without a TRAIN", x.undo(1), Make.BAD);
        x = Make.train("e4920 idwl s28 w11");
        long atFirst = x.digest();
        Make.go(x, 10, 1, 13);
        long then = x.digest();
        Make.go(x, 6, 5, 11, 7);
        due.is("undo(8)", x.undo(8), Make.BAD);
        due.is("undo(-1)", x.undo(-1), Make.BAD);
        due.is("undo(7)", x.undo(7), 0);
        due.is("undo(3)", x.undo(3), 4);
        due.is("as it was then", x.digest(), then);
        due.is("undo(3) again", x.undo(3), 0);
        due.is("undo(0)", x.undo(0), 3);
        due.is("as it was at first", x.digest(), atFirst);
        x = Make.train("e9900 id w19 w11 w11");
        Make.go(x, 1, 8);
        due.is("it TORE", x.count(0), 1);
        due.is("undo(1)", x.undo(1), 1);
        due.is("not lost any more", x.count(0), 3);
        due.is("nor the BRAKE", x.go(14), 6);
    }

    private static void keepAndOn() {
        WheelsSlip x = new WheelsSlip();
        due.is("keep(3), BAD ahead of STATE", x.keep(3), Make.BAD);
        due.is("keep(-1)", x.keep(-1), Make.BAD);
        due.is("keep(0) without a TRAIN", x.keep(0), Make.STATE);
        due.is("on(3)", x.on(3), Make.BAD);
        due.is("on(-1)", x.on(-1), Make.BAD);
        due.finds("on(0) without a TRAIN", x, x.on(0), Make.NOTHING);
        x = Make.train("e4920 idwl s28 w11");
        due.finds("on(2), missing", x, x.on(2), Make.NOTHING);
        Make.go(x, 10, 1);
        due.is("keep(2)", x.keep(2), 2);
        due.is("kept", x.count(7), 1);
        long kept = x.digest();
        x.undo(0);
        Make.go(x, 13, 11, 12);
        due.is("on(2), other DEEDS ahead", x.on(2), 2);
        due.is("it is as it was kept", x.digest(), kept);
        Make.go(x, 13, 8, 11);
        due.is("keep(0)", x.keep(0), 5);
        due.is("on(2)", x.on(2), 2);
        due.is("undo(1)", x.undo(1), 1);
        due.is("on(2) again", x.on(2), 2);
        due.is("kept twice", x.count(7), 2);
        due.is("on(0)", x.on(0), 5);
        due.is("MINUTE", Make.engine(x, 8), 5);
        due.is("keep(2) anew", x.keep(2), 5);
        x.undo(0);
        due.is("on(2)", x.on(2), 5);
        due.holds("it is another one", x.digest() != kept);
    }
}
