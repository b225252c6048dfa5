/** Promises 19 to 23: what grips, pulls, jerks. */
public final class PullTest {
    private static final Due due = new Due("PullTest");

    public static void main(String[] args) {
        grip();
        load();
        steam();
        would();
        worst();
        due.end();
    }

    private static void grip() {
        WheelsSlip x = new WheelsSlip();
        due.is("grip() without a TRAIN", x.grip(), Make.STATE);
        x = Make.train("e4910 idwl w11");
        due.tells("dry", x, x.grip(), 12, 15);
        x.go(9);
        due.tells("damp, HOLLOW 1", x, x.grip(), 7, 10);
        x.go(10);
        due.tells("leaves, SANDED", x, x.grip(), 6, 6);
        x.go(12);
        due.tells("dry again, SANDED", x, x.grip(), 14, 14);
    }

    private static void load() {
        WheelsSlip x = new WheelsSlip();
        due.is("load(0) without a TRAIN", x.load(0), 0);
        due.is("load(1) without a TRAIN", x.load(1), Make.BAD);
        due.is("load(-1)", x.load(-1), Make.BAD);
        x = Make.train("e9991 id w31 h31 s31 p31 r31 b31");
        int[] loads = {0, 4, 11, 15, 17, 24, 31};
        for (int n = 0; n < loads.length; n++) {
            due.is("load(" + n + ")", x.load(n), loads[n]);
        }
        due.is("load(7)", x.load(7), Make.BAD);
        due.is("load(-1)", x.load(-1), Make.BAD);
        x.go(13);
        due.is("load(6), the BRAKE OFF", x.load(6), 28);
        x.go(9);
        due.is("it TORE", x.count(0), 0);
        due.is("load(1), lost", x.load(1), Make.BAD);
        due.is("load(0)", x.load(0), 0);
    }

    private static void steam() {
        WheelsSlip x = new WheelsSlip();
        due.is("steam() without a TRAIN", x.steam(), Make.STATE);
        x = Make.train("e3500 idwl w31 h81 w11");
        due.tells("dry", x, x.steam(), 4, 2);
        due.is("go(2)", x.go(2), 2);
        due.tells("damp, the next one too heavy", x, x.steam(), 3, Make.NONE);
        x = Make.train("e9090 id w39 w99 h31");
        due.tells("more than there is", x, x.steam(), 9, 2);
        Make.go(x, 11, 2);
        due.tells("12", x, x.steam(), 9, 6);
        Make.go(x, 11, 11, 11, 6);
        due.tells("18, the last, the BRAKE ON", x, x.steam(), 9, 9);
        Make.go(x, 13, 11, 11, 9);
        due.tells("all are: to go", x, x.steam(), 9, 9);
        x = Make.train("e1010 il");
        due.tells("none: to go", x, x.steam(), 0, 0);
        x.go(10);
        due.tells("SANDED", x, x.steam(), 2, 0);
    }

    private static void would() {
        WheelsSlip x = new WheelsSlip();
        due.is("would(10), BAD ahead of STATE", x.would(10), Make.BAD);
        due.is("would(-1)", x.would(-1), Make.BAD);
        due.is("would(0) without a TRAIN", x.would(0), Make.STATE);
        x = Make.train("e4190 id w21 w41 w21");
        long before = x.digest();
        int[] first = {0, 2, 3, 3, 3, 3, 3, 1, 1, 1};
        for (int steam = 0; steam < 10; steam++) {
            due.is("would(" + steam + ")", x.would(steam), first[steam]);
        }
        due.is("nothing is changed", x.digest(), before);
        Make.go(x, 1, 13, 11, 11);
        int[] then = {5, 0, 0, 2, 3, 3, 3, 1, 1, 1};
        for (int steam = 0; steam < 10; steam++) {
            due.is("would(" + steam + ") then", x.would(steam), then[steam]);
        }
        Make.go(x, 3, 11, 4);
        due.is("would(4), all TAKEN UP", x.would(4), 4);
        due.is("would(3), all TAKEN UP", x.would(3), 5);
    }

    private static void worst() {
        WheelsSlip x = new WheelsSlip();
        due.is("worst() without a TRAIN", x.worst(), Make.NONE);
        due.is("asked() stays", x.asked(), 0);
        x = Make.train("e1090 id");
        due.is("worst() without WAGONS", x.worst(), Make.NONE);
        x = Make.train("e1090 id w39 s44 w13 h91");
        due.tells("SLACK", x, x.worst(), 1, 99);
        x = Make.train("e1090 id w33 w32 w33 w31 p11");
        due.tells("the first of two", x, x.worst(), 3, 99);
        x = Make.train("e1090 id h91 w11");
        due.tells("18 is enough, 19 is not", x, x.worst(), 0, 99);
        x = Make.train("e1091 id h91 w11");
        x.at(0, 0);
        due.is("none is enough", x.worst(), Make.NONE);
        x = Make.train("e1090 id r11 s11");
        due.tells("it would TEAR", x, x.worst(), 1, 102);
        x = Make.train("e1090 id b91 w11");
        due.tells("the BRAKE ON: 12", x, x.worst(), 0, 101);
        x.go(13);
        due.tells("the BRAKE OFF: 9", x, x.worst(), 0, 102);
    }
}
