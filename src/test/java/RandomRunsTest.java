import java.util.Random;

/** Runs of calls by fixed seeds, each answer held against the Model's: likely numbers, numbers at the edges, wild ones. */
public final class RandomRunsTest {
    private static final Due due = new Due("RandomRunsTest", 900);
    private static final int CALLS = 512;
    private static final int[] WILD = {Integer.MIN_VALUE, Integer.MAX_VALUE, -1, 1 << 16, -1000};

    private final Random random;
    private final WheelsSlip x = new WheelsSlip();
    private final Model model = new Model();
    private final int run;
    private int calls;

    private RandomRunsTest(int run) {
        this.run = run;
        random = new Random(run);
    }

    public static void main(String[] args) {
        int runs = args.length > 0 ? Integer.parseInt(args[0]) : 400;
        int from = args.length > 1 ? Integer.parseInt(args[1]) : 0;
        for (int run = from; run < from + runs; run++) {
            new RandomRunsTest(run).goes();
        }
        due.end();
    }

    private void is(String call, long got, long want) {
        calls++;
        due.is("run " + run + ", call " + calls + ": " + call, got, want);
    }

    private void goes() {
        if (random.nextInt(8) > 0) {
            writesTrain();
        }
        while (calls < CALLS - 80) {
            step();
            is("asked()", x.asked(), model.asked());
            is("digest()", x.digest(), model.digest());
            if (random.nextInt(3) == 0) {
                is("finding()", x.finding(), model.finding());
                int f = 1 + random.nextInt(5);
                is("findings(" + f + ")", x.findings(f), model.findings(f));
            }
        }
    }

    private int among(int least, int most) {
        int dice = random.nextInt(40);
        if (dice == 0) {
            return WILD[random.nextInt(WILD.length)];
        }
        if (dice == 1) {
            return random.nextBoolean() ? least - 1 : most + 1;
        }
        return least + random.nextInt(most - least + 1);
    }

    /** How many THINGS a search may take: four of them take the Model long. */
    private int few() {
        int dice = random.nextInt(100);
        return dice < 2 ? 4 : dice < 20 ? 3 : among(0, 2);
    }

    private void writesTrain() {
        StringBuilder text = new StringBuilder();
        text.append("e").append(1 + random.nextInt(9)).append(random.nextInt(10)).append(random.nextInt(10))
            .append(random.nextInt(4)).append(random.nextBoolean() ? " i" : "i");
        int rails = 1 + random.nextInt(6);
        for (int i = 0; i < rails; i++) {
            text.append("dwl".charAt(random.nextInt(3)));
        }
        int wagons = random.nextInt(7);
        for (int i = 0; i < wagons; i++) {
            text.append(random.nextInt(3) > 0 || i == 0 ? " " : "").append("whsprb".charAt(random.nextInt(6)))
                .append(1 + random.nextInt(random.nextBoolean() ? 3 : 9)).append(1 + random.nextInt(9));
        }
        String signs = text.toString();
        int t = random.nextInt(4);
        is("text", x.text(t, signs.length()), model.text(t, signs.length()));
        for (int i = 0; i < signs.length(); i++) {
            int v = signs.charAt(i) + (random.nextInt(20) == 0 ? 256 : 0);
            is("put", x.put(t, i, v), model.put(t, i, v));
        }
        int faults = random.nextInt(4) == 0 ? 1 + random.nextInt(2) : 0;
        for (int i = 0; i < faults; i++) {
            int place = random.nextInt(signs.length());
            int v = random.nextBoolean() ? "ei dwlhsprb0123456789".charAt(random.nextInt(21)) : random.nextInt(300) - 100;
            is("put", x.put(t, place, v), model.put(t, place, v));
        }
        is("fault of " + signs, x.fault(t), model.fault(t));
        is("train of " + signs, x.train(t), model.train(t));
    }

    private void writesAnyRow(int r) {
        int shape = random.nextInt(4);
        if (shape == 0) {
            int n = among(0, 40);
            is("row(" + r + ", " + n + ")", x.row(r, n), model.row(r, n));
        } else if (shape == 1) {
            writesBook(r);
        } else {
            writesPlan(r, shape == 2 ? 6 : 12);
        }
    }

    private void lays(int r, int i, int v) {
        is("lay(" + r + ", " + i + ", " + v + ")", x.lay(r, i, v), model.lay(r, i, v));
    }

    private void writesPlan(int r, int most) {
        int n = random.nextInt(20) == 0 ? most + 1 : random.nextInt(most + 1);
        is("row(" + r + ", " + n + ")", x.row(r, n), model.row(r, n));
        for (int i = 0; i < n; i++) {
            lays(r, i, random.nextInt(60) == 0 ? among(0, 14) : likelyThing());
        }
    }

    /** Mostly as an engine of some WEIGHT would have it. */
    private void writesBook(int r) {
        int weight = 1 + random.nextInt(9);
        int n = 3 * random.nextInt(6) + (random.nextInt(20) == 0 ? 1 : 0);
        is("row(" + r + ", " + n + ")", x.row(r, n), model.row(r, n));
        for (int i = 0; i + 2 < n; i += 3) {
            int rail = random.nextInt(3);
            int steam = random.nextInt(10);
            boolean slipped = 2 * steam > weight * (3 - rail) ^ random.nextInt(10) == 0;
            lays(r, i, rail);
            lays(r, i + 1, steam);
            lays(r, i + 2, random.nextInt(60) == 0 ? among(0, 1) : slipped ? 1 : 0);
        }
        if (n > 0 && random.nextInt(10) == 0) {
            lays(r, random.nextInt(n), among(0, 9));
        }
    }

    private int likelyThing() {
        return random.nextInt(12) < 8 ? random.nextInt(7) : 10 + random.nextInt(4);
    }

    private void step() {
        int which = random.nextInt(50);
        if (which < 18) {
            int thing = random.nextInt(4) == 0 ? among(0, 14) : likelyThing();
            is("go(" + thing + ")", x.go(thing), model.go(thing));
        } else if (which < 28) {
            rowsAndTexts();
        } else if (which < 40) {
            looks();
        } else {
            plansAndBooks();
        }
    }

    private void rowsAndTexts() {
        int r = among(0, 5);
        int t = among(0, 3);
        int i = among(0, 12);
        int j = among(0, 12);
        int n = among(0, 6);
        int v = random.nextInt();
        switch (random.nextInt(11)) {
            case 0 -> is("at(" + r + ", " + i + ")", x.at(r, i), model.at(r, i));
            case 1 -> is("tear(" + r + ")", x.tear(r), model.tear(r));
            case 2, 3 -> {
                int to = among(0, 5);
                String call = "copy(" + r + ", " + i + ", " + to + ", " + j + ", " + n + ")";
                is(call, x.copy(r, i, to, j, n), model.copy(r, i, to, j, n));
            }
            case 4 -> is("mean(" + r + ")", x.mean(r), model.mean(r));
            case 5 -> is("text(" + t + ", " + i + ")", x.text(t, i), model.text(t, i));
            case 6 -> is("put(" + t + ", " + i + ", " + v + ")", x.put(t, i, v), model.put(t, i, v));
            case 7 -> is("fault(" + t + ")", x.fault(t), model.fault(t));
            case 8 -> {
                if (random.nextInt(3) == 0) {
                    is("train(" + t + ")", x.train(t), model.train(t));
                } else {
                    writesTrain();
                }
            }
            case 9 -> is("lay(" + r + ", " + i + ", " + v + ")", x.lay(r, i, v), model.lay(r, i, v));
            default -> writesAnyRow(r);
        }
    }

    private void looks() {
        int i = among(0, 5);
        int k = among(0, 2);
        int what = among(0, 9);
        int six = among(0, 5);
        switch (random.nextInt(13)) {
            case 0 -> is("wagon(" + i + ", " + six + ")", x.wagon(i, six), model.wagon(i, six));
            case 1, 2 -> is("mark(" + i + ", " + six + ")", x.mark(i, six), model.mark(i, six));
            case 3 -> is("engine(" + what + ")", x.engine(what), model.engine(what));
            case 4 -> is("keep(" + k + ")", x.keep(k), model.keep(k));
            case 5 -> is("on(" + k + ")", x.on(k), model.on(k));
            case 6 -> {
                int n = random.nextInt(3) == 0 ? among(0, 60) : Math.max(0, model.count(2) - random.nextInt(4));
                is("undo(" + n + ")", x.undo(n), model.undo(n));
            }
            case 7 -> is("grip()", x.grip(), model.grip());
            case 8 -> is("load(" + i + ")", x.load(i), model.load(i));
            case 9 -> is("steam()", x.steam(), model.steam());
            case 10 -> is("would(" + what + ")", x.would(what), model.would(what));
            case 11 -> is("worst()", x.worst(), model.worst());
            default -> is("count(" + what + ")", x.count(what), model.count(what));
        }
    }

    private void plansAndBooks() {
        int r = among(0, 5);
        int n = few();
        int which = random.nextInt(11);
        if (which == 0 || which == 5) {
            writesPlan(r, which == 0 ? 12 : 6);
        } else if (which > 6 && random.nextBoolean()) {
            writesBook(r);
        }
        switch (which) {
            case 0 -> is("run(" + r + ")", x.run(r), model.run(r));
            case 1 -> is("shortest(" + n + ", " + r + ")", x.shortest(n, r), model.shortest(n, r));
            case 2 -> is("ways(" + n + ")", x.ways(n), model.ways(n));
            case 3 -> is("stay(" + n + ")", x.stay(n), model.stay(n));
            case 4 -> is("bad()", x.bad(), model.bad());
            case 5, 6 -> {
                int d = among(0, 12);
                int w = among(0, d >= 0 && d < 12 ? 12 - d : 0);
                is("odds(" + r + ", " + d + ", " + w + ")", x.odds(r, d, w), model.odds(r, d, w));
                is("upper()", x.upper(), model.upper());
                is("lower()", x.lower(), model.lower());
            }
            case 7 -> is("weights(" + r + ")", x.weights(r), model.weights(r));
            case 8 -> {
                int weight = among(1, 9);
                is("lies(" + r + ", " + weight + ")", x.lies(r, weight), model.lies(r, weight));
            }
            case 9 -> {
                int set = random.nextInt(4) == 0 ? random.nextInt() : 2 * among(0, 511);
                int rail = among(0, 2);
                is("trial(" + set + ", " + rail + ")", x.trial(set, rail), model.trial(set, rail));
            }
            default -> {
                int lots = among(1, 20);
                int seed = random.nextInt(8) == 0 ? among(1, 2147483646) : 1 + random.nextInt(2147483646);
                is("lots(" + lots + ", " + seed + ")", x.lots(lots, seed), model.lots(lots, seed));
            }
        }
    }
}
