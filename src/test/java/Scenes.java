import java.util.LinkedHashMap;
import java.util.Map;

/** How an object stands ahead of the call that a test is about, and all that it tells then. */
final class Scenes {
    /** Made so that nothing in it is as in a new object. */
    static final String BUSY_TRAIN = "e6831 idwl w24 h15 b19";
    static final int BUSY_DEEDS = 10;
    static final int BUSY_ASKED = 11;
    static final String[] TOLD = {"asked()", "upper()", "lower()"};

    interface Scene {
        void set(WheelsSlip x);
    }

    private Scenes() {
    }

    static WheelsSlip made(Scene scene) {
        WheelsSlip x = new WheelsSlip();
        scene.set(x);
        return x;
    }

    static void fresh(WheelsSlip x) {
        // As it was made.
    }

    /** ROWS 0 a PLAN, 1 a book, 2 empty, 3 neither, 4 of two, 5 missing; TEXTS 0 a TRAIN, 1 a FAULT, 2 empty, 3 missing. */
    static void trainless(WheelsSlip x) {
        Make.text(x, 0, BUSY_TRAIN);
        Make.text(x, 1, "e6831 i");
        x.text(2, 0);
        Make.row(x, 0, 11, 5);
        Make.row(x, 1, 0, 5, 1, 1, 2, 0, 2, 3, 1);
        x.row(2, 0);
        Make.row(x, 3, 15, -1, Integer.MAX_VALUE, Integer.MIN_VALUE, 7, 0, 0, 0, 0, 0, 0, 0, 1);
        Make.row(x, 4, 7, 7);
        x.tear(5);
        x.at(5, 0);
        x.at(0, 2);
        x.weights(3);
        x.row(0, -1);
        x.mean(2);
        x.at(0, 0);
    }

    /** A TRAIN besides: 10 DEEDS, all three TAKEN UP, HOLLOW 1, SANDED, the BRAKE OFF, GONE 1; kept in places 0 and 1. */
    static void busy(WheelsSlip x) {
        trainless(x);
        x.train(0);
        Make.go(x, 10, 2, 5, 3);
        x.keep(0);
        Make.go(x, 13, 11, 4);
        x.keep(1);
        Make.go(x, 4, 11, 10);
        x.odds(0, 5, 4);
        x.mean(2);
        x.at(0, 0);
    }

    /** As many DEEDS as there can be. */
    static void full(WheelsSlip x) {
        busy(x);
        for (int i = BUSY_DEEDS; i < 60; i++) {
            x.go(12);
        }
    }

    /** A busy TRAIN behind which all is torn off but the first WAGON. */
    static void torn(WheelsSlip x) {
        busy(x);
        x.undo(8);
        Make.go(x, 14, 11, 11, 12, 11, 3, 11, 7);
    }

    static Scene train(String signs, int... things) {
        return x -> {
            Make.text(x, 0, signs);
            x.train(0);
            Make.go(x, things);
        };
    }

    static Scene busyAnd(Scene more) {
        return x -> {
            busy(x);
            more.set(x);
        };
    }

    static Scene trainlessAnd(Scene more) {
        return x -> {
            trainless(x);
            more.set(x);
        };
    }

    /** All that it tells, its kept TRAINS and its first six MINUTES, too: it is not to be used behind that. */
    static Map<String, Long> look(WheelsSlip x) {
        Map<String, Long> told = new LinkedHashMap<>();
        told.put("asked()", (long) x.asked());
        told.put("upper()", x.upper());
        told.put("lower()", x.lower());
        for (int what = 0; what < 8; what++) {
            told.put("count(" + what + ")", (long) x.count(what));
        }
        for (int what = 0; what < 10; what++) {
            tell(told, "engine(" + what + ")", x, x.engine(what));
        }
        told.put("digest()", x.digest());
        for (int steam = 0; steam < 10; steam++) {
            told.put("would(" + steam + ")", (long) x.would(steam));
        }
        for (int n = 0; n < 4; n++) {
            told.put("load(" + n + ")", (long) x.load(n));
        }
        tell(told, "steam()", x, x.steam());
        tell(told, "worst()", x, x.worst());
        tell(told, "bad()", x, x.bad());
        for (int t = 0; t < 4; t++) {
            told.put("fault(" + t + ")", (long) x.fault(t));
        }
        for (int k = 0; k < 3; k++) {
            told.put("on(" + k + ")", (long) x.on(k));
            told.put("on(" + k + "), digest()", x.digest());
        }
        told.put("undo(0)", (long) x.undo(0));
        for (int minute = 0; minute < 6; minute++) {
            tell(told, "grip() in MINUTE " + minute, x, x.grip());
            told.put("go(12) in MINUTE " + minute, (long) x.go(12));
        }
        told.put("digest() at last", x.digest());
        return told;
    }

    private static void tell(Map<String, Long> told, String call, WheelsSlip x, long answer) {
        told.put(call, answer);
        if (answer >= 0) {
            told.put(call + ", asked()", (long) x.asked());
        }
    }
}
