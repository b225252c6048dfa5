/** Makes objects, rows and trains for the tests. */
final class Make {
    static final int BAD = WheelsSlip.BAD;
    static final int FULL = WheelsSlip.FULL;
    static final int STATE = WheelsSlip.STATE;
    static final int NONE = WheelsSlip.NONE;
    static final int NOTHING = 1;
    static final int BEYOND = 2;
    static final int UNLIKE = 3;
    static final int NOUGHT = 4;
    static final int SIZE = 5;

    private Make() {
    }

    static void text(WheelsSlip x, int t, String signs) {
        x.text(t, signs.length());
        for (int i = 0; i < signs.length(); i++) {
            if (signs.charAt(i) != ' ') {
                x.put(t, i, signs.charAt(i));
            }
        }
    }

    static WheelsSlip train(String signs) {
        WheelsSlip x = new WheelsSlip();
        text(x, 0, signs);
        x.train(0);
        return x;
    }

    /** The document written plainly, brought to the same state: it tries every PLAN. */
    static Model model(String signs, int... things) {
        Model model = new Model();
        model.text(0, signs.length());
        for (int i = 0; i < signs.length(); i++) {
            model.put(0, i, signs.charAt(i));
        }
        model.train(0);
        for (int thing : things) {
            model.go(thing);
        }
        return model;
    }

    static void row(WheelsSlip x, int r, int... places) {
        x.row(r, places.length);
        for (int i = 0; i < places.length; i++) {
            if (places[i] != 0) {
                x.lay(r, i, places[i]);
            }
        }
    }

    static int engine(WheelsSlip x, int what) {
        return x.engine(what) == 1 ? x.asked() : Integer.MIN_VALUE;
    }

    static int wagon(WheelsSlip x, int i, int what) {
        return x.wagon(i, what) == 1 ? x.asked() : Integer.MIN_VALUE;
    }

    static int place(WheelsSlip x, int r, int i) {
        return x.at(r, i) == 1 ? x.asked() : Integer.MIN_VALUE;
    }

    static void go(WheelsSlip x, int... things) {
        for (int thing : things) {
            x.go(thing);
        }
    }
}
