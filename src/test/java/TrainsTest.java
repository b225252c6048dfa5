/** Promises 8 to 14: texts, trains, wagons, the engine. */
public final class TrainsTest {
    private static final Due due = new Due("TrainsTest");

    public static void main(String[] args) {
        text();
        put();
        fault();
        train();
        wagon();
        mark();
        engine();
        due.end();
    }

    private static void text() {
        WheelsSlip x = new WheelsSlip();
        due.is("text(3, 60)", x.text(3, 60), 60);
        due.is("a blank", x.put(3, 59, 1), 1032);
        due.is("text(3, 60) anew", x.text(3, 60), 60);
        due.is("a blank again", x.put(3, 59, 1), 1032);
        due.is("text(0, 0)", x.text(0, 0), 0);
        due.is("count(6)", x.count(6), 2);
        due.is("text(4, 1)", x.text(4, 1), Make.BAD);
        due.is("text(-1, 1)", x.text(-1, 1), Make.BAD);
        due.is("text(0, 61)", x.text(0, 61), Make.BAD);
        due.is("text(4, -1)", x.text(4, -1), Make.BAD);
        due.finds("text(3, -1)", x, x.text(3, -1), Make.SIZE);
        due.is("it stays", x.put(3, 59, 1), 1001);
    }

    private static void put() {
        WheelsSlip x = new WheelsSlip();
        due.is("put(4, 0, 1)", x.put(4, 0, 1), Make.BAD);
        due.is("put(-1, 0, 1)", x.put(-1, 0, 1), Make.BAD);
        due.finds("put(0, 0, 1)", x, x.put(0, 0, 1), Make.NOTHING);
        x.text(0, 1);
        due.is("put(0, 0, 128)", x.put(0, 0, 128), 1032);
        due.is("put(0, 0, 255)", x.put(0, 0, 255), 872);
        due.is("put(0, 0, -129)", x.put(0, 0, -129), 999);
        due.is("put(0, 0, 357)", x.put(0, 0, 357), 1127);
        due.is("put(0, 0, 0)", x.put(0, 0, 0), 1101);
        due.finds("put(0, 1, 1)", x, x.put(0, 1, 1), Make.BEYOND);
        due.finds("put(0, -1, 1)", x, x.put(0, -1, 1), Make.BEYOND);
        due.is("asked() stays", x.asked(), 0);
    }

    private static void faultIs(String signs, int want) {
        WheelsSlip x = new WheelsSlip();
        Make.text(x, 2, signs);
        due.is("fault of \"" + signs + "\"", x.fault(2), want);
    }

    private static void fault() {
        WheelsSlip x = new WheelsSlip();
        due.is("fault(4)", x.fault(4), Make.BAD);
        due.is("fault(-1)", x.fault(-1), Make.BAD);
        due.finds("fault(0)", x, x.fault(0), Make.NOTHING);
        faultIs("", 0);
        faultIs("   ", 3);
        faultIs("f1000id", 0);
        faultIs("id w11", 0);
        faultIs("e1000 d w11", 6);
        faultIs("e:000id", 1);
        faultIs("e1:00id", 2);
        faultIs("e1000id w:1", 9);
        faultIs("e1000id w1:", 10);
        faultIs("  e1000id", Make.NONE);
        faultIs("e0000id", 1);
        faultIs("e1a00id", 2);
        faultIs("e10:0id", 3);
        faultIs("e1004id", 4);
        faultIs("e1 00id", 2);
        faultIs("e9993id", Make.NONE);
        faultIs("e100", 4);
        faultIs("e1000", 5);
        faultIs("e1000  ", 7);
        faultIs("e1000 x", 6);
        faultIs("e1000 i", 7);
        faultIs("e1000 i d", 7);
        faultIs("e1000 iddd", Make.NONE);
        faultIs("e1000 idwldwl", Make.NONE);
        faultIs("e1000 idwldwld", 13);
        faultIs("e1000 idwldwll", 13);
        faultIs("e1000 idwldwlw11", Make.NONE);
        faultIs("e1000 idwldww11", 13);
        faultIs("e1000 iddw11", 10);
        faultIs("e1000 id d", 9);
        faultIs("e1000 ids11h11", Make.NONE);
        faultIs("e1000idw11", 8);
        faultIs("e1000id w", 9);
        faultIs("e1000id w1", 10);
        faultIs("e1000id w01", 9);
        faultIs("e1000id w10", 10);
        faultIs("e1000id w 11", 9);
        faultIs("e1000id w11s11p11r11b11h11", Make.NONE);
        faultIs("e1000id w11s11p11r11b11h11   ", Make.NONE);
        faultIs("e1000id w11s11p11r11b11h11 w11", 27);
        faultIs("e1000id w11e1000id", 11);
        WheelsSlip y = new WheelsSlip();
        Make.text(y, 0, "e1000id");
        y.put(0, 0, 101 - 256);
        due.is("fault, a byte cut", y.fault(0), Make.NONE);
        y.put(0, 3, -1);
        due.is("fault, a byte below 0", y.fault(0), 3);
        due.is("no TRAIN by that", y.count(1), 0);
    }

    private static void train() {
        WheelsSlip x = new WheelsSlip();
        due.is("train(4)", x.train(4), Make.BAD);
        due.is("train(-1)", x.train(-1), Make.BAD);
        due.finds("train(0)", x, x.train(0), Make.NOTHING);
        Make.text(x, 0, "e5673 idwl w23 s45");
        due.is("train(0)", x.train(0), 2);
        due.is("count(1)", x.count(1), 3);
        Make.go(x, 10, 11);
        x.keep(0);
        x.keep(1);
        x.keep(2);
        Make.text(x, 1, "e5673 i w23");
        due.is("train(1), a FAULT", x.train(1), Make.STATE);
        due.is("it stays: DEEDS", x.count(2), 2);
        due.is("it stays: SAND", Make.engine(x, 2), 6);
        due.is("it stays: kept", x.count(7), 3);
        due.is("train(0) anew", x.train(0), 2);
        due.is("no DEEDS", x.count(2), 0);
        due.is("MINUTE 0", Make.engine(x, 8), 0);
        due.is("kept TRAINS go", x.count(7), 0);
        due.is("STEAM", Make.engine(x, 1), 6);
        due.is("SAND", Make.engine(x, 2), 7);
        Make.text(x, 1, "e1000 il");
        due.is("train(1) without WAGONS", x.train(1), 0);
        due.is("count(0)", x.count(0), 0);
        due.is("WEIGHT", Make.engine(x, 0), 1);
        due.is("count(1)", x.count(1), 1);
        x.text(1, 3);
        due.is("the TEXT is no more looked at", Make.engine(x, 0), 1);
    }

    private static void wagonIs(WheelsSlip x, int i, int... facts) {
        for (int what = 0; what < facts.length; what++) {
            due.tells("wagon(" + i + ", " + what + ")", x, x.wagon(i, what), 1, facts[what]);
        }
    }

    private static void wagon() {
        WheelsSlip x = new WheelsSlip();
        due.is("wagon(0, 0) without a TRAIN", x.wagon(0, 0), Make.BAD);
        x = Make.train("e9992 id w34 h35 s36 p13 r37 b38");
        wagonIs(x, 0, 0, 3, 5, 4, 0, 0);
        wagonIs(x, 1, 1, 3, 8, 5, 0, 0);
        wagonIs(x, 2, 2, 3, 5, 6, 2, 0);
        wagonIs(x, 3, 3, 1, 2, 3, 0, 0);
        wagonIs(x, 4, 4, 3, 8, 3, 0, 0);
        wagonIs(x, 5, 5, 3, 8, 8, 2, 0);
        x.go(13);
        wagonIs(x, 5, 5, 3, 5, 8, 2, 0);
        due.is("go(3)", x.go(3), 2);
        wagonIs(x, 0, 0, 3, 5, 4, 0, 1);
        wagonIs(x, 1, 1, 3, 8, 5, 0, 0);
        due.is("wagon(6, 0)", x.wagon(6, 0), Make.BAD);
        due.is("wagon(-1, 0)", x.wagon(-1, 0), Make.BAD);
        due.is("wagon(0, 6)", x.wagon(0, 6), Make.BAD);
        due.is("wagon(0, -1)", x.wagon(0, -1), Make.BAD);
        x = Make.train("e9990 id p94 r11 w11");
        wagonIs(x, 0, 3, 9, 7, 4, 0, 0);
        wagonIs(x, 1, 4, 1, 2, 0, 0, 0);
        due.is("go(4)", x.go(4), 2);
        due.is("it TEARS", x.go(8), 3);
        due.is("a lost one is none", x.wagon(1, 0), Make.BAD);
        wagonIs(x, 0, 3, 9, 7, 4, 0, 1);
    }

    private static void mark() {
        WheelsSlip x = new WheelsSlip();
        due.is("mark(0, 1) without a TRAIN", x.mark(0, 1), Make.BAD);
        x = Make.train("e9993 id b11 h45 s36 p53 r37 b38");
        due.is("HEAVY", x.mark(1, 1), 4);
        due.is("HEAVY, a RUSTY one", x.mark(4, 1), 3);
        due.is("SLACK, a BRAKED one", x.mark(0, 2), 0);
        due.is("SLACK", x.mark(2, 2), 1);
        due.is("SLACK, the last", x.mark(5, 2), 2);
        due.is("PUSHED", x.mark(3, 3), 3);
        due.is("RUSTY", x.mark(4, 4), 4);
        due.is("BRAKED", x.mark(0, 5), 5);
        due.is("BRAKED, the last", x.mark(5, 5), 0);
        due.finds("HEAVY is no RUSTY", x, x.mark(1, 4), Make.UNLIKE);
        due.finds("SLACK is no BRAKED", x, x.mark(2, 5), Make.UNLIKE);
        due.finds("BRAKED is no HEAVY", x, x.mark(0, 1), Make.UNLIKE);
        due.finds("RUSTY is no PUSHED", x, x.mark(4, 3), Make.UNLIKE);
        due.is("KIND 0", x.mark(0, 0), Make.BAD);
        due.is("KIND 6", x.mark(0, 6), Make.BAD);
        due.is("KIND -1", x.mark(0, -1), Make.BAD);
        due.is("WAGON 6", x.mark(6, 1), Make.BAD);
        due.is("WAGON -1", x.mark(-1, 1), Make.BAD);
        x = Make.train("e9990 id p11 p99 b11 r12 w11");
        due.is("PUSHED, it WEIGHS none", x.mark(0, 3), 0);
        due.is("PUSHED, it WEIGHS 7", x.mark(1, 3), 4);
        due.is("BRAKED, ahead of two", x.mark(2, 5), 2);
        due.is("RUSTY, half of 2", x.mark(3, 4), 1);
        Make.go(x, 0, 4);
        due.is("TAKEN UP", Make.engine(x, 7), 2);
        due.is("it TEARS", x.go(8), 3);
        due.is("lost", x.mark(2, 5), Make.BAD);
        x = Make.train("e9990 id b19 w11 w11");
        due.is("it TEARS behind", x.go(2), 2);
        due.is("go(8)", x.go(8), 3);
        due.is("BRAKED, none behind left", x.mark(0, 5), 0);
    }

    private static void engine() {
        WheelsSlip x = new WheelsSlip();
        due.is("engine(0) without a TRAIN", x.engine(0), Make.STATE);
        due.is("engine(-1), STATE ahead of BAD", x.engine(-1), Make.STATE);
        x = Make.train("e4521 ild w22 w28");
        int[] atFirst = {4, 5, 2, 1, 0, 0, 1, 0, 0, 0};
        for (int what = 0; what < 10; what++) {
            due.tells("engine(" + what + ")", x, x.engine(what), 1, atFirst[what]);
        }
        due.is("engine(10)", x.engine(10), Make.BAD);
        due.is("engine(-1)", x.engine(-1), Make.BAD);
        Make.go(x, 5, 2, 10, 13);
        int[] then = {4, 2, 1, 1, 1, 1, 0, 1, 4, 0};
        for (int what = 0; what < 10; what++) {
            due.tells("engine(" + what + ") then", x, x.engine(what), 1, then[what]);
        }
        Make.go(x, 11, 3, 11, 3);
        due.is("GONE", Make.engine(x, 9), 1);
        due.is("TAKEN UP", Make.engine(x, 7), 2);
    }
}
