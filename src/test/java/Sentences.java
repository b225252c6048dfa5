import java.lang.reflect.InvocationTargetException;
import java.lang.reflect.Method;
import java.util.ArrayList;
import java.util.Comparator;
import java.util.List;
import java.util.Map;

/** Runs the tests of one class that bear words of the document, and holds calls, refused ones above all, to what is due. */
final class Sentences extends Due {
    private static final int[] FAR = {Integer.MIN_VALUE, Integer.MIN_VALUE + 1, Integer.MAX_VALUE - 1, Integer.MAX_VALUE};

    /** A call that a test is about. */
    interface Call {
        long on(WheelsSlip x);
    }

    /** A call with one number to be looked at. */
    interface NumberCall {
        long on(WheelsSlip x, int v);
    }

    private final Class<?> tests;
    private String now = "";
    private int checks;

    Sentences(Class<?> tests) {
        super(tests.getSimpleName());
        this.tests = tests;
    }

    static List<Method> testsIn(Class<?> tests) {
        List<Method> all = new ArrayList<>();
        for (Method method : tests.getDeclaredMethods()) {
            if (method.isAnnotationPresent(Says.class)) {
                all.add(method);
            }
        }
        all.sort(Comparator.comparing(Method::getName));
        return all;
    }

    void hold() throws IllegalAccessException {
        for (Method test : testsIn(tests)) {
            now = test.getName() + " (\"" + String.join("\", \"", test.getAnnotation(Says.class).value()) + "\")";
            checks = 0;
            try {
                test.invoke(null);
            } catch (InvocationTargetException e) {
                holds("nothing is thrown: " + e.getCause(), false);
            }
            holds("something is looked at", checks > 0);
        }
        now = "in all";
        holds("there are tests", !testsIn(tests).isEmpty());
        end();
    }

    @Override
    void is(String call, long got, long want) {
        checks++;
        super.is(now + ": " + call, got, want);
    }

    /** A refused call, or one that answers NONE: a twin that was not asked tells all the same but the FINDING. */
    void refuses(String what, Scenes.Scene scene, Call call, long answer, int finding) {
        WheelsSlip x = Scenes.made(scene);
        WheelsSlip twin = Scenes.made(scene);
        is(what, call.on(x), answer);
        is(what + ", finding()", x.finding(), finding == 0 ? twin.finding() : finding);
        for (int f = 1; f <= 5; f++) {
            is(what + ", findings(" + f + ")", x.findings(f), twin.findings(f) + (f == finding ? 1 : 0));
        }
        alike(what + " changed nothing else", Scenes.look(x), Scenes.look(twin));
    }

    /** A call that only tells something: but for what it tells, a twin that was not asked tells all the same. */
    void leaves(String what, Scenes.Scene scene, Call call) {
        WheelsSlip x = Scenes.made(scene);
        WheelsSlip twin = Scenes.made(scene);
        call.on(x);
        is(what + " finds nothing", x.finding(), twin.finding());
        Map<String, Long> looked = Scenes.look(x);
        Map<String, Long> other = Scenes.look(twin);
        for (String told : Scenes.TOLD) {
            looked.remove(told);
            other.remove(told);
        }
        alike(what + " leaves all as it was", looked, other);
    }

    private void alike(String what, Map<String, Long> looked, Map<String, Long> other) {
        for (Map.Entry<String, Long> told : other.entrySet()) {
            Long got = looked.get(told.getKey());
            holds(what + ": " + told.getKey() + " is told", got != null);
            is(what + ": " + told.getKey(), got == null ? Long.MIN_VALUE : got, told.getValue());
        }
        is(what + ": as much is told", looked.size(), other.size());
    }

    void bad(String what, Scenes.Scene scene, Call call) {
        refuses(what, scene, call, WheelsSlip.BAD, 0);
    }

    void bad(String what, Call call) {
        bad(what, Scenes::busy, call);
    }

    /** One number is refused by BAD at one below the least, one above the most, and far off. */
    void badOutside(String what, int least, int most, Scenes.Scene scene, NumberCall call) {
        badBelow(what, least, scene, call);
        badAbove(what, most, scene, call);
    }

    void badOutside(String what, int least, int most, NumberCall call) {
        badOutside(what, least, most, Scenes::busy, call);
    }

    void badBelow(String what, int least, Scenes.Scene scene, NumberCall call) {
        bad(what + " " + (least - 1), scene, x -> call.on(x, least - 1));
        for (int v : FAR) {
            if (v < least) {
                bad(what + " " + v, scene, x -> call.on(x, v));
            }
        }
    }

    void badAbove(String what, int most, Scenes.Scene scene, NumberCall call) {
        bad(what + " " + (most + 1), scene, x -> call.on(x, most + 1));
        for (int v : FAR) {
            if (v > most) {
                bad(what + " " + v, scene, x -> call.on(x, v));
            }
        }
    }

    void state(String what, Scenes.Scene scene, Call call) {
        refuses(what, scene, call, WheelsSlip.STATE, 0);
    }

    void full(String what, Scenes.Scene scene, Call call) {
        refuses(what, scene, call, WheelsSlip.FULL, 0);
    }

    void none(String what, Scenes.Scene scene, Call call) {
        refuses(what, scene, call, WheelsSlip.NONE, 0);
    }

    void finds(String what, Scenes.Scene scene, Call call, int finding) {
        refuses(what, scene, call, WheelsSlip.FINDING, finding);
    }

    void finds(String what, Call call, int finding) {
        finds(what, Scenes::busy, call, finding);
    }
}
