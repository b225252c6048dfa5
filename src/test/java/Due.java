/** Counts and prints the answers that are not the due ones. */
class Due {
    private final String test;
    private int wrong;

    Due(String test) {
        this(test, 120);
    }

    /** A call that does not end fails the test, too: it has so many seconds. */
    Due(String test, int seconds) {
        this.test = test;
        Thread watch = new Thread(() -> stopsBehind(seconds));
        watch.setDaemon(true);
        watch.start();
    }

    private void stopsBehind(int seconds) {
        try {
            Thread.sleep(1000L * seconds);
        } catch (InterruptedException e) {
            return;
        }
        System.out.println(test + ": not at an end behind " + seconds + " seconds");
        Runtime.getRuntime().halt(1);
    }

    void is(String call, long got, long want) {
        if (got != want) {
            wrong++;
            System.out.println(test + ": " + call + " answered " + got + ", due is " + want);
        }
    }

    void holds(String what, boolean so) {
        is(what, so ? 1 : 0, 1);
    }

    /** A call that tells by asked(). */
    void tells(String call, WheelsSlip x, long got, long want, long told) {
        is(call, got, want);
        is(call + ", asked()", x.asked(), told);
    }

    /** A call refused by a FINDING. */
    void finds(String call, WheelsSlip x, long got, int finding) {
        is(call, got, WheelsSlip.FINDING);
        is(call + ", finding()", x.finding(), finding);
    }

    void end() {
        System.out.println(wrong == 0 ? test + ": as due" : test + ": " + wrong + " not as due");
        if (wrong != 0) {
            System.exit(1);
        }
    }
}
