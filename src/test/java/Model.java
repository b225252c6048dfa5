import java.math.BigInteger;
import java.util.ArrayList;
import java.util.Arrays;
import java.util.HashMap;
import java.util.List;
import java.util.Map;
import java.util.regex.Matcher;
import java.util.regex.Pattern;

/** The document once more, written apart from the class and as plainly as can be: every plan is tried, nothing is kept ready. */
final class Model {
    private static final Pattern WHOLE =
        Pattern.compile(" *e([1-9])([0-9])([0-9])([0-3]) *i([dwl]{1,6}+)((?: *[whsprb][1-9][1-9]){0,6}) *");

    /** One TRAIN in one MINUTE. */
    static final class Standing implements Cloneable {
        int weight;
        int steam;
        int sand;
        int hill;
        String rails = "";
        String wagons = "";
        int taken;
        int hollow;
        int minute;
        int gone;
        boolean sanded;
        boolean brake = true;
        boolean lost;
        boolean torn;

        Standing twin() {
            try {
                return (Standing) clone();
            } catch (CloneNotSupportedException e) {
                throw new IllegalStateException(e);
            }
        }

        int many() {
            return wagons.length() / 3;
        }

        char letter(int i) {
            return wagons.charAt(3 * i);
        }

        int tons(int i) {
            return wagons.charAt(3 * i + 1) - '0';
        }

        int coupling(int i) {
            return wagons.charAt(3 * i + 2) - '0';
        }

        boolean heavy(int i) {
            return "hr".indexOf(letter(i)) >= 0;
        }

        boolean slack(int i) {
            return "sb".indexOf(letter(i)) >= 0;
        }

        int weighs(int i) {
            int w = tons(i);
            if (heavy(i)) {
                w *= 2;
            }
            if (letter(i) == 'p') {
                w = w < 2 ? 0 : w - 2;
            }
            if (letter(i) == 'b' && brake) {
                w += 3;
            }
            return w + hill;
        }

        int holds(int i) {
            return letter(i) == 'r' ? coupling(i) / 2 : coupling(i);
        }

        int load(int n) {
            int load = 0;
            for (int i = 0; i < n; i++) {
                load += weighs(i);
            }
            return load;
        }

        char rail(int atMinute) {
            return rails.charAt(atMinute % rails.length());
        }

        int grip(char rail, boolean strewn) {
            int factor = rail == 'd' ? 3 : rail == 'w' ? 2 : 1;
            int grip = weight * factor - hollow;
            if (grip < 0) {
                grip = 0;
            }
            return strewn ? grip + 3 : grip;
        }

        boolean can(int thing) {
            if (thing < 10) {
                return thing <= steam;
            }
            return !(thing == 10 && sand == 0) && !(thing == 14 && lost);
        }

        int act(int thing) {
            return act(thing, rail(minute));
        }

        int act(int thing, char rail) {
            minute++;
            if (thing == 10) {
                sand--;
                sanded = true;
            }
            if (thing == 11) {
                steam = steam > 7 ? 9 : steam + 2;
            }
            if (thing == 12) {
                taken = 0;
            }
            if (thing == 13) {
                brake = false;
            }
            if (thing == 14) {
                brake = true;
            }
            return thing >= 10 ? 6 : give(thing, rail);
        }

        private int give(int given, char rail) {
            int pull = given * 2;
            int grip = grip(rail, sanded);
            sanded = false;
            if (pull > grip) {
                hollow = hollow == 9 ? 9 : hollow + 1;
                steam = steam < 2 ? 0 : steam - 2;
                return 1;
            }
            if (given > 0) {
                steam--;
            }
            boolean all = taken == many();
            if (!all) {
                boolean last = taken == many() - 1;
                int over = pull - load(taken + 1);
                if (over >= 0 && !(last && brake)) {
                    if (over + (slack(taken) ? 2 : 0) > holds(taken)) {
                        wagons = wagons.substring(0, 3 * taken);
                        brake = false;
                        lost = true;
                        torn = true;
                        return 3;
                    }
                    taken++;
                    return 2;
                }
            }
            if (all && !brake && pull >= load(taken)) {
                gone++;
                return 4;
            }
            if (!brake && pull < load(taken)) {
                taken = 0;
                return 5;
            }
            return 0;
        }
    }

    private final int[][] rows = new int[6][];
    private final byte[][] texts = new byte[4][];
    private final Map<Integer, List<Integer>> kept = new HashMap<>();
    private final List<Integer> deeds = new ArrayList<>();
    private final int[] found = new int[6];
    private Standing first;
    private Standing now;
    private int asked;
    private int finding;
    private BigInteger upper = BigInteger.ZERO;
    private BigInteger lower = BigInteger.ONE;

    private int find(int f) {
        finding = f;
        found[f]++;
        return -3;
    }

    private int tell(int what, int answer) {
        asked = what;
        return answer;
    }

    private static boolean out(int v, int least, int most) {
        return v < least || v > most;
    }

    int row(int r, int n) {
        if (out(r, 0, 5) || n > 40) {
            return -1;
        }
        if (n < 0) {
            return find(5);
        }
        rows[r] = new int[n];
        return n;
    }

    int lay(int r, int i, int v) {
        int answer = at(r, i);
        if (answer == 1) {
            rows[r][i] = v;
        }
        return answer;
    }

    int at(int r, int i) {
        if (out(r, 0, 5)) {
            return -1;
        }
        if (rows[r] == null) {
            return find(1);
        }
        if (out(i, 0, rows[r].length - 1)) {
            return find(2);
        }
        return tell(rows[r][i], 1);
    }

    int tear(int r) {
        if (out(r, 0, 5)) {
            return -1;
        }
        if (rows[r] == null) {
            return find(1);
        }
        rows[r] = null;
        return 1;
    }

    int copy(int r, int i, int to, int j, int n) {
        if (out(r, 0, 5) || out(to, 0, 5)) {
            return -1;
        }
        if (n < 0) {
            return find(5);
        }
        if (rows[r] == null || rows[to] == null) {
            return find(1);
        }
        if (i < 0 || j < 0 || (long) i + n > rows[r].length || (long) j + n > rows[to].length) {
            return find(2);
        }
        int[] ahead = Arrays.copyOfRange(rows[r], i, i + n);
        for (int k = 0; k < n; k++) {
            rows[to][j + k] = ahead[k];
        }
        return 1;
    }

    int mean(int r) {
        if (out(r, 0, 5)) {
            return -1;
        }
        if (rows[r] == null) {
            return find(1);
        }
        if (rows[r].length == 0) {
            return find(4);
        }
        BigInteger sum = BigInteger.ZERO;
        for (int v : rows[r]) {
            sum = sum.add(BigInteger.valueOf(v));
        }
        return tell(sum.divide(BigInteger.valueOf(rows[r].length)).intValueExact(), 1);
    }

    int text(int t, int n) {
        if (out(t, 0, 3) || n > 60) {
            return -1;
        }
        if (n < 0) {
            return find(5);
        }
        texts[t] = new byte[n];
        Arrays.fill(texts[t], (byte) ' ');
        return n;
    }

    int put(int t, int i, int v) {
        if (out(t, 0, 3)) {
            return -1;
        }
        if (texts[t] == null) {
            return find(1);
        }
        if (out(i, 0, texts[t].length - 1)) {
            return find(2);
        }
        int was = texts[t][i];
        texts[t][i] = (byte) v;
        return 1000 + was;
    }

    private static String signs(byte[] text) {
        StringBuilder signs = new StringBuilder();
        for (byte b : text) {
            signs.append((char) (b & 0xff));
        }
        return signs.toString();
    }

    /** The first place with which no text goes on so any more. */
    int fault(int t) {
        if (out(t, 0, 3)) {
            return -1;
        }
        if (texts[t] == null) {
            return find(1);
        }
        String signs = signs(texts[t]);
        for (int end = 1; end <= signs.length(); end++) {
            Matcher matcher = WHOLE.matcher(signs.substring(0, end));
            if (!matcher.matches() && !matcher.hitEnd()) {
                return end - 1;
            }
        }
        return WHOLE.matcher(signs).matches() ? -9 : signs.length();
    }

    int train(int t) {
        int fault = fault(t);
        if (fault == -1 || fault == -3) {
            return fault;
        }
        if (fault != -9) {
            return -4;
        }
        Matcher read = WHOLE.matcher(signs(texts[t]));
        if (!read.matches()) {
            throw new IllegalStateException();
        }
        first = new Standing();
        first.weight = Integer.parseInt(read.group(1));
        first.steam = Integer.parseInt(read.group(2));
        first.sand = Integer.parseInt(read.group(3));
        first.hill = Integer.parseInt(read.group(4));
        first.rails = read.group(5);
        first.wagons = read.group(6).replace(" ", "");
        kept.clear();
        deeds.clear();
        again();
        return now.many();
    }

    private void again() {
        if (first != null) {
            now = first.twin();
            for (int thing : deeds) {
                now.act(thing);
            }
        }
    }

    private int many() {
        return now == null ? 0 : now.many();
    }

    private int wagonFact(int i, int what) {
        int[] facts = {"whsprb".indexOf(now.letter(i)), now.tons(i), now.weighs(i), now.holds(i), now.slack(i) ? 2 : 0,
            i < now.taken ? 1 : 0};
        return facts[what];
    }

    int wagon(int i, int what) {
        return out(i, 0, many() - 1) || out(what, 0, 5) ? -1 : tell(wagonFact(i, what), 1);
    }

    int mark(int i, int kind) {
        if (out(i, 0, many() - 1) || out(kind, 1, 5)) {
            return -1;
        }
        String of = new String[] {"", "hr", "sb", "p", "r", "b"}[kind];
        if (of.indexOf(now.letter(i)) < 0) {
            return find(3);
        }
        int ahead = 0;
        for (int k = 0; k < i; k++) {
            ahead += now.slack(k) ? 1 : 0;
        }
        int least = 0;
        while (2 * least < now.weighs(i)) {
            least++;
        }
        Standing plain = now.twin();
        plain.wagons = now.wagons.substring(0, 3 * i) + "w" + now.wagons.substring(3 * i + 1);
        int[] marks = {0, now.weighs(i) - plain.weighs(i), ahead, least, plain.holds(i) - now.holds(i), many() - 1 - i};
        return marks[kind];
    }

    private int engineFact(int what) {
        int[] facts = {now.weight, now.steam, now.sand, now.hill, now.hollow, now.sanded ? 1 : 0, now.brake ? 1 : 0,
            now.taken, deeds.size(), now.gone};
        return facts[what];
    }

    int engine(int what) {
        if (now == null) {
            return -4;
        }
        return out(what, 0, 9) ? -1 : tell(engineFact(what), 1);
    }

    int go(int thing) {
        if (out(thing, 0, 14)) {
            return -1;
        }
        if (now == null || !now.can(thing)) {
            return -4;
        }
        if (deeds.size() == 60) {
            return -2;
        }
        deeds.add(thing);
        return now.act(thing);
    }

    int undo(int n) {
        if (out(n, 0, deeds.size())) {
            return -1;
        }
        int undone = 0;
        while (deeds.size() > n) {
            deeds.remove(deeds.size() - 1);
            undone++;
        }
        again();
        return undone;
    }

    int keep(int k) {
        if (out(k, 0, 2)) {
            return -1;
        }
        if (now == null) {
            return -4;
        }
        kept.put(k, new ArrayList<>(deeds));
        return deeds.size();
    }

    int on(int k) {
        if (out(k, 0, 2)) {
            return -1;
        }
        if (!kept.containsKey(k)) {
            return find(1);
        }
        deeds.clear();
        deeds.addAll(kept.get(k));
        again();
        return deeds.size();
    }

    int grip() {
        if (now == null) {
            return -4;
        }
        char rail = now.rail(deeds.size());
        return tell(now.grip(rail, true), now.grip(rail, now.sanded));
    }

    int load(int n) {
        if (out(n, 0, many())) {
            return -1;
        }
        return n == 0 ? 0 : now.load(n);
    }

    private static int least(int load) {
        for (int steam = 0; steam <= 9; steam++) {
            if (2 * steam >= load) {
                return steam;
            }
        }
        return -9;
    }

    int steam() {
        if (now == null) {
            return -4;
        }
        int most = 0;
        for (int steam = 0; steam <= 9; steam++) {
            most = 2 * steam <= now.grip(now.rail(deeds.size()), now.sanded) ? steam : most;
        }
        return tell(least(now.load(now.taken < many() ? now.taken + 1 : many())), most);
    }

    int would(int steam) {
        if (out(steam, 0, 9)) {
            return -1;
        }
        return now == null ? -4 : now.twin().act(steam);
    }

    int worst() {
        int worst = -9;
        int most = Integer.MIN_VALUE;
        for (int i = 0; i < many(); i++) {
            int steam = least(now.load(i + 1));
            if (steam >= 0) {
                int strain = 2 * steam - now.load(i + 1) + (now.slack(i) ? 2 : 0) - now.holds(i);
                if (strain > most) {
                    most = strain;
                    worst = i;
                }
            }
        }
        return worst == -9 ? -9 : tell(most + 100, worst);
    }

    private int planRefused(int r, int most) {
        if (now == null) {
            return -4;
        }
        if (rows[r] == null) {
            return find(1);
        }
        if (rows[r].length > most) {
            return find(5);
        }
        for (int thing : rows[r]) {
            if (out(thing, 0, 14)) {
                return find(3);
            }
        }
        return 0;
    }

    int run(int r) {
        if (out(r, 0, 5)) {
            return -1;
        }
        int refused = planRefused(r, 12);
        if (refused != 0) {
            return refused;
        }
        Standing aside = now.twin();
        for (int thing : rows[r]) {
            if (aside.can(thing)) {
                aside.act(thing);
            }
        }
        return tell(aside.many(), aside.gone - now.gone);
    }

    /** Every plan of n things, each being done, in the order of numbers: those that START come to the list. */
    private static void allPlans(Standing from, int gone, int n, String ahead, List<String> starting, int[] whole) {
        if (n == 0) {
            if (from.gone > gone) {
                starting.add(ahead);
                whole[0] += from.torn ? 0 : 1;
            }
            return;
        }
        for (int thing = 0; thing < 15; thing++) {
            if (from.can(thing)) {
                Standing next = from.twin();
                next.act(thing);
                allPlans(next, gone, n - 1, ahead + (char) ('a' + thing), starting, whole);
            }
        }
    }

    private static List<String> plans(Standing from, int n, int[] whole) {
        List<String> starting = new ArrayList<>();
        Standing first = from.twin();
        first.torn = false;
        allPlans(first, first.gone, n, "", starting, whole);
        return starting;
    }

    int shortest(int n, int r) {
        if (out(n, 0, 4) || out(r, 0, 5)) {
            return -1;
        }
        if (now == null) {
            return -4;
        }
        for (int many = 0; many <= n; many++) {
            List<String> starting = plans(now, many, new int[1]);
            if (!starting.isEmpty()) {
                String plan = starting.get(0);
                rows[r] = new int[plan.length()];
                for (int i = 0; i < plan.length(); i++) {
                    rows[r][i] = plan.charAt(i) - 'a';
                }
                return plan.length();
            }
        }
        return -9;
    }

    int ways(int n) {
        if (out(n, 0, 4)) {
            return -1;
        }
        if (now == null) {
            return -4;
        }
        int[] whole = new int[1];
        int ways = plans(now, n, whole).size();
        return tell(whole[0], ways);
    }

    int stay(int n) {
        if (out(n, 0, 4)) {
            return -1;
        }
        if (now == null) {
            return -4;
        }
        for (int staying = 0; staying <= many(); staying++) {
            Standing left = now.twin();
            left.wagons = now.wagons.substring(0, 3 * (many() - staying));
            left.taken = Math.min(now.taken, left.many());
            for (int many = 0; many <= n; many++) {
                if (!plans(left, many, new int[1]).isEmpty()) {
                    return staying;
                }
            }
        }
        return -9;
    }

    int bad() {
        if (now == null) {
            return -4;
        }
        int worst = -1;
        int least = Integer.MAX_VALUE;
        for (int minute = deeds.size(); minute < deeds.size() + now.rails.length(); minute++) {
            int grip = now.grip(now.rail(minute), now.sanded);
            if (grip < least) {
                least = grip;
                worst = minute;
            }
        }
        return tell(least, worst);
    }

    /** Every course of as many RAILS as there are THINGS, by its weight. */
    int odds(int r, int d, int w) {
        if (out(r, 0, 5) || out(d, 0, 12) || out(w, 0, 12) || d + w > 12) {
            return -1;
        }
        int refused = planRefused(r, 6);
        if (refused != 0) {
            return refused;
        }
        int n = rows[r].length;
        int[] parts = {d, w, 12 - d - w};
        int courses = 1;
        for (int i = 0; i < n; i++) {
            courses *= 3;
        }
        BigInteger starts = BigInteger.ZERO;
        for (int course = 0; course < courses; course++) {
            Standing aside = now.twin();
            BigInteger weight = BigInteger.ONE;
            int rest = course;
            for (int i = 0; i < n; i++) {
                int rail = rest % 3;
                rest /= 3;
                weight = weight.multiply(BigInteger.valueOf(parts[rail]));
                if (aside.can(rows[r][i])) {
                    aside.act(rows[r][i], "dwl".charAt(rail));
                }
            }
            if (aside.gone > now.gone) {
                starts = starts.add(weight);
            }
        }
        BigInteger all = BigInteger.valueOf(12).pow(n);
        BigInteger common = starts.gcd(all);
        upper = starts.divide(common);
        lower = all.divide(common);
        return 1;
    }

    private int bookRefused(int r) {
        if (rows[r] == null) {
            return find(1);
        }
        if (rows[r].length % 3 != 0) {
            return find(5);
        }
        for (int i = 0; i < rows[r].length; i += 3) {
            if (out(rows[r][i], 0, 2) || out(rows[r][i + 1], 0, 9) || out(rows[r][i + 2], 0, 1)) {
                return find(3);
            }
        }
        return 0;
    }

    private static boolean slips(int weight, int rail, int steam) {
        Standing engine = new Standing();
        engine.weight = weight;
        return 2 * steam > engine.grip("dwl".charAt(rail), false);
    }

    private List<Integer> untrue(int r, int weight) {
        List<Integer> untrue = new ArrayList<>();
        for (int i = 0; i < rows[r].length; i += 3) {
            if (slips(weight, rows[r][i], rows[r][i + 1]) != (rows[r][i + 2] == 1)) {
                untrue.add(i / 3);
            }
        }
        return untrue;
    }

    int weights(int r) {
        if (out(r, 0, 5)) {
            return -1;
        }
        int refused = bookRefused(r);
        if (refused != 0) {
            return refused;
        }
        int set = 0;
        for (int weight = 1; weight <= 9; weight++) {
            set += untrue(r, weight).isEmpty() ? 1 << weight : 0;
        }
        return set;
    }

    int lies(int r, int weight) {
        if (out(r, 0, 5) || out(weight, 1, 9)) {
            return -1;
        }
        int refused = bookRefused(r);
        if (refused != 0) {
            return refused;
        }
        List<Integer> untrue = untrue(r, weight);
        return tell(untrue.isEmpty() ? -9 : untrue.get(0), untrue.size());
    }

    int trial(int set, int rail) {
        if (out(set, 2, 1022) || set % 2 != 0 || out(rail, 0, 2)) {
            return -1;
        }
        int best = -1;
        int least = 99;
        for (int steam = 0; steam <= 9; steam++) {
            int[] sides = new int[2];
            for (int weight = 1; weight <= 9; weight++) {
                if ((set & 1 << weight) != 0) {
                    sides[slips(weight, rail, steam) ? 1 : 0]++;
                }
            }
            int greater = Math.max(sides[0], sides[1]);
            if (greater < least) {
                least = greater;
                best = steam;
            }
        }
        return tell(least, best);
    }

    int lots(int n, int seed) {
        if (out(n, 1, 20) || out(seed, 1, 2147483646)) {
            return -1;
        }
        if (now == null) {
            return -4;
        }
        if (deeds.size() + n > 60) {
            return -2;
        }
        int before = now.gone;
        BigInteger number = BigInteger.valueOf(seed);
        for (int i = 0; i < n; i++) {
            number = number.multiply(BigInteger.valueOf(48271)).mod(BigInteger.valueOf(2147483647));
            int thing = number.shiftRight(4).mod(BigInteger.valueOf(15)).intValue();
            if (go(thing) == -4) {
                go(11);
            }
        }
        return now.gone - before;
    }

    int asked() {
        return asked;
    }

    long upper() {
        return upper.longValueExact();
    }

    long lower() {
        return lower.longValueExact();
    }

    int count(int what) {
        int heavy = 0;
        for (int i = 0; i < many(); i++) {
            heavy += now.heavy(i) ? 1 : 0;
        }
        int[] counts = {many(), now == null ? 0 : now.rails.length(), deeds.size(), load(many()), heavy,
            (int) Arrays.stream(rows).filter(row -> row != null).count(),
            (int) Arrays.stream(texts).filter(text -> text != null).count(), kept.size()};
        return out(what, 0, 7) ? -1 : counts[what];
    }

    int finding() {
        return finding;
    }

    int findings(int f) {
        return out(f, 1, 5) ? -1 : found[f];
    }

    long digest() {
        List<Integer> all = new ArrayList<>();
        for (int what = 0; what < 8; what++) {
            all.add(count(what));
        }
        for (int what = 0; now != null && what < 10; what++) {
            all.add(engineFact(what));
        }
        for (int i = 0; i < many(); i++) {
            for (int what = 0; what < 6; what++) {
                all.add(wagonFact(i, what));
            }
        }
        for (int k = 0; k < 3; k++) {
            all.add(kept.containsKey(k) ? kept.get(k).size() : -1);
        }
        for (int[] row : rows) {
            all.add(row == null ? -1 : row.length);
            for (int i = 0; row != null && i < row.length; i++) {
                all.add(row[i]);
            }
        }
        for (byte[] text : texts) {
            all.add(text == null ? -1 : text.length);
            for (int i = 0; text != null && i < text.length; i++) {
                all.add((int) text[i]);
            }
        }
        long h = 17;
        for (int v : all) {
            h = 31 * h + v;
        }
        return h;
    }
}
