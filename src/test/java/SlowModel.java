import java.math.BigInteger;
import java.util.ArrayList;
import java.util.Arrays;
import java.util.HashMap;
import java.util.HashSet;
import java.util.List;
import java.util.Map;
import java.util.Set;
import java.util.TreeMap;
import java.util.TreeSet;

/**
 * The document once more, by the plainest ways there are: units are fractions of great numbers, not
 * powers; answers are found by looking through all units of the box; groups by trying all forms.
 */
final class SlowModel {
    private static final BigInteger ONE = BigInteger.ONE;
    private static final Map<String, List<Fraction>> UNITS = new HashMap<>();
    private static final Map<String, List<Fraction>> ANSWERS = new HashMap<>();
    private static final Map<String, List<Integer>> GROUPS = new HashMap<>();
    private static final Map<String, Integer> LEFTS = new HashMap<>();

    record Fraction(BigInteger above, BigInteger below) implements Comparable<Fraction> {
        static final Fraction WHOLE = new Fraction(ONE, ONE);

        static Fraction of(BigInteger n, BigInteger d) {
            BigInteger g = n.gcd(d).multiply(BigInteger.valueOf(d.signum()));
            return new Fraction(n.divide(g), d.divide(g));
        }

        Fraction times(Fraction o) {
            return of(above.multiply(o.above), below.multiply(o.below));
        }

        Fraction by(Fraction o) {
            return of(above.multiply(o.below), below.multiply(o.above));
        }

        Fraction fromOne() {
            return of(below.subtract(above), below);
        }

        Fraction turned() {
            return new Fraction(above.negate(), below);
        }

        @Override
        public int compareTo(Fraction o) {
            int c = below.compareTo(o.below);
            return c != 0 ? c : above.compareTo(o.above);
        }
    }

    private TreeMap<Integer, Integer> boxes = new TreeMap<>();
    private Fraction[] shelves = {Fraction.WHOLE, Fraction.WHOLE, Fraction.WHOLE, Fraction.WHOLE};
    private List<Integer> sieves = new ArrayList<>();
    private String tape = "";
    private final long[][] lists = new long[3][];
    private TreeMap<Integer, Integer> imageBoxes;
    private Fraction[] imageShelves;
    private List<Integer> imageSieves;

    // ---- what is asked of the document's terms

    private static boolean isPrime(int p) {
        return BigInteger.valueOf(p).isProbablePrime(40) && p > 0;
    }

    private static boolean isOf(int i, int n) {
        return i >= 0 && i < n;
    }

    private int nth(int i) {
        return new ArrayList<>(boxes.keySet()).get(i);
    }

    private static int powerIn(Fraction f, int p) {
        return countIn(f.above, p) - countIn(f.below, p);
    }

    private static int countIn(BigInteger n, int p) {
        int k = 0;
        while (n.mod(BigInteger.valueOf(p)).signum() == 0) {
            n = n.divide(BigInteger.valueOf(p));
            k++;
        }
        return k;
    }

    private static Fraction power(int p, int e) {
        BigInteger n = BigInteger.valueOf(p).pow(Math.abs(e));
        return e < 0 ? new Fraction(ONE, n) : new Fraction(n, ONE);
    }

    private boolean isUnit(Fraction f) {
        if (f.above.signum() == 0) {
            return false;
        }
        Fraction rest = f;
        for (int p : boxes.keySet()) {
            int e = powerIn(f, p);
            if (Math.abs(e) > 6) {
                return false;
            }
            rest = rest.by(power(p, e));
        }
        return rest.above.abs().equals(ONE) && rest.below.equals(ONE);
    }

    private boolean isPair(Fraction f) {
        return isUnit(f.fromOne());
    }

    private static List<Fraction> formsOf(Fraction x) {
        Fraction y = x.fromOne();
        return List.of(x, y, Fraction.WHOLE.by(x), Fraction.WHOLE.by(y), y.by(x).turned(), x.by(y).turned());
    }

    private List<Fraction> unitsInBox() {
        return UNITS.computeIfAbsent(boxes.toString(), k -> {
            List<Fraction> all = new ArrayList<>(List.of(Fraction.WHOLE, Fraction.WHOLE.turned()));
            boxes.forEach((p, b) -> {
                List<Fraction> more = new ArrayList<>();
                for (int e = -b; e <= b; e++) {
                    Fraction factor = power(p, e);
                    for (Fraction f : all) {
                        more.add(new Fraction(f.above.multiply(factor.above), f.below.multiply(factor.below)));
                    }
                }
                all.clear();
                all.addAll(more);
            });
            return all;
        });
    }

    private List<Fraction> allAnswers() {
        return ANSWERS.computeIfAbsent(boxes.toString(), k -> {
            Set<Fraction> units = new HashSet<>(unitsInBox());
            Set<Fraction> answers = new TreeSet<>();
            for (Fraction f : units) {
                if (units.contains(f.fromOne())) {
                    answers.add(f);
                }
            }
            return new ArrayList<>(answers);
        });
    }

    private List<Integer> allGroups() {
        return GROUPS.computeIfAbsent(boxes.toString(), k -> {
            List<Fraction> answers = allAnswers();
            List<Integer> groups = new ArrayList<>();
            int next = 0;
            for (int i = 0; i < answers.size(); i++) {
                int group = next;
                for (int j = 0; j < i; j++) {
                    if (formsOf(answers.get(j)).contains(answers.get(i)) || formsOf(answers.get(i)).contains(answers.get(j))) {
                        group = groups.get(j);
                    }
                }
                next = Math.max(next, group + 1);
                groups.add(group);
            }
            return groups;
        });
    }

    private Set<Integer> reached(int q) {
        Set<Integer> all = new TreeSet<>(List.of(1, q - 1));
        for (int p : boxes.keySet()) {
            Set<Integer> more = new TreeSet<>();
            for (int r : all) {
                for (int e = 0; e < q; e++) {
                    more.add(BigInteger.valueOf(p).modPow(BigInteger.valueOf(e), BigInteger.valueOf(q)).intValue() * r % q);
                }
            }
            all = more;
        }
        return all;
    }

    private static int modulo(Fraction f, int q) {
        BigInteger m = BigInteger.valueOf(q);
        return f.above.multiply(f.below.modInverse(m)).mod(m).intValue();
    }

    private static boolean passesBy(Fraction f, int q, Set<Integer> reached) {
        return reached.contains(modulo(f.fromOne(), q));
    }

    private int faultOf(int q) {
        if (q < 3 || q > 97 || !isPrime(q)) {
            return -2;
        }
        return boxes.containsKey(q) ? -3 : 0;
    }

    private int heightOf(Fraction f) {
        int most = 0;
        for (int p : boxes.keySet()) {
            most = Math.max(most, Math.abs(powerIn(f, p)));
        }
        return most;
    }

    // ---- the calls

    int prime(int p) {
        if (p < 2 || p > 31 || !isPrime(p)) {
            return -2;
        }
        if (boxes.containsKey(p)) {
            return -3;
        }
        int product = p;
        for (int o : boxes.keySet()) {
            product *= o;
        }
        if (boxes.size() == 4 || product > 1000) {
            return -4;
        }
        boxes.put(p, 2);
        sieves.remove(Integer.valueOf(p));
        return boxes.size();
    }

    int drop(int i) {
        if (!isOf(i, boxes.size())) {
            return -1;
        }
        int p = nth(i);
        for (int s = 0; s < 4; s++) {
            shelves[s] = shelves[s].by(power(p, powerIn(shelves[s], p)));
        }
        boxes.remove(p);
        return boxes.size();
    }

    int primeOf(int i) {
        return isOf(i, boxes.size()) ? nth(i) : -1;
    }

    int box(int i, int b) {
        if (!isOf(i, boxes.size())) {
            return -1;
        }
        return b < 0 || b > 4 ? -2 : boxes.put(nth(i), b);
    }

    int boxOf(int i) {
        return isOf(i, boxes.size()) ? boxes.get(nth(i)) : -1;
    }

    int put(int s, int i, int e) {
        if (!isOf(s, 4) || !isOf(i, boxes.size())) {
            return -1;
        }
        if (e < -6 || e > 6) {
            return -2;
        }
        int p = nth(i);
        int before = powerIn(shelves[s], p);
        shelves[s] = shelves[s].by(power(p, before)).times(power(p, e));
        return before + 10;
    }

    int sign(int s, int sign) {
        if (!isOf(s, 4)) {
            return -1;
        }
        if (sign != 1 && sign != -1) {
            return -2;
        }
        Fraction f = shelves[s];
        shelves[s] = new Fraction(f.above.abs().multiply(BigInteger.valueOf(sign)), f.below);
        return 1;
    }

    int powerOf(int s, int i) {
        return isOf(s, 4) && isOf(i, boxes.size()) ? powerIn(shelves[s], nth(i)) + 10 : -1;
    }

    long value(int s, int part) {
        if (!isOf(s, 4) || !isOf(part, 2)) {
            return Long.MIN_VALUE;
        }
        return (part == 0 ? shelves[s].above : shelves[s].below).longValueExact();
    }

    int height(int s) {
        return isOf(s, 4) ? heightOf(shelves[s]) : -1;
    }

    int isIn(int s) {
        return !isOf(s, 4) ? -1 : unitsInBox().contains(shelves[s]) ? 1 : 0;
    }

    private int keepAs(int to, Fraction f, int otherwise) {
        if (!isUnit(f)) {
            return otherwise;
        }
        shelves[to] = f;
        return 1;
    }

    int times(int s, int o, int to) {
        return isOf(s, 4) && isOf(o, 4) && isOf(to, 4) ? keepAs(to, shelves[s].times(shelves[o]), -6) : -1;
    }

    int over(int s, int o, int to) {
        return isOf(s, 4) && isOf(o, 4) && isOf(to, 4) ? keepAs(to, shelves[s].by(shelves[o]), -6) : -1;
    }

    int partner(int s, int to) {
        return isOf(s, 4) && isOf(to, 4) ? keepAs(to, shelves[s].fromOne(), -5) : -1;
    }

    int form(int s, int k, int to) {
        if (!isOf(s, 4) || !isOf(to, 4) || !isOf(k, 6)) {
            return -1;
        }
        return isPair(shelves[s]) ? keepAs(to, formsOf(shelves[s]).get(k), -5) : -5;
    }

    int forms(int s) {
        return !isOf(s, 4) ? -1 : isPair(shelves[s]) ? new HashSet<>(formsOf(shelves[s])).size() : -5;
    }

    int answers() {
        return allAnswers().size();
    }

    long answer(int i, int part) {
        if (!isOf(i, answers()) || !isOf(part, 2)) {
            return Long.MIN_VALUE;
        }
        Fraction f = allAnswers().get(i);
        return (part == 0 ? f.above : f.below).longValueExact();
    }

    int take(int i, int s) {
        if (!isOf(i, answers()) || !isOf(s, 4)) {
            return -1;
        }
        shelves[s] = allAnswers().get(i);
        return 1;
    }

    int which(int s) {
        if (!isOf(s, 4)) {
            return -1;
        }
        int i = allAnswers().indexOf(shelves[s]);
        return i < 0 ? -5 : i;
    }

    int groups() {
        return new HashSet<>(allGroups()).size();
    }

    int groupOf(int i) {
        return isOf(i, answers()) ? allGroups().get(i) : -1;
    }

    int group(int g, int what) {
        if (!isOf(g, groups()) || !isOf(what, 3)) {
            return -1;
        }
        int size = 0;
        int highest = 0;
        for (int i = 0; i < answers(); i++) {
            if (groupOf(i) == g) {
                size++;
                highest = Math.max(highest, heightOf(allAnswers().get(i)));
            }
        }
        return what == 0 ? size : what == 1 ? allGroups().indexOf(g) : highest;
    }

    int lots(int n, int z) {
        if (n < 1 || n > 50) {
            return -2;
        }
        int hits = 0;
        int[] seed = {z};
        for (int k = 0; k < n; k++) {
            Fraction f = Fraction.WHOLE;
            for (Map.Entry<Integer, Integer> e : boxes.entrySet()) {
                f = f.times(power(e.getKey(), draw(seed, 2 * e.getValue() + 1) - e.getValue()));
            }
            f = draw(seed, 2) == 1 ? f.turned() : f;
            hits += allAnswers().contains(f) ? 1 : 0;
        }
        return hits;
    }

    private static int draw(int[] seed, int m) {
        BigInteger two = BigInteger.TWO;
        BigInteger next = BigInteger.valueOf(seed[0]).multiply(BigInteger.valueOf(1103515245)).add(BigInteger.valueOf(12345));
        seed[0] = next.intValue();
        return next.mod(two.pow(31)).divide(two.pow(16)).mod(BigInteger.valueOf(m)).intValue();
    }

    int sieve(int q) {
        if (faultOf(q) != 0) {
            return faultOf(q);
        }
        sieves.remove(Integer.valueOf(q));
        sieves.add(q);
        sieves = new ArrayList<>(sieves.subList(Math.max(0, sieves.size() - 4), sieves.size()));
        return sieves.size();
    }

    int sieveOf(int i) {
        return isOf(i, sieves.size()) ? sieves.get(i) : -1;
    }

    int forget(int q) {
        return sieves.remove(Integer.valueOf(q)) ? sieves.size() : -1;
    }

    int order(int i, int q) {
        if (!isOf(i, boxes.size())) {
            return -1;
        }
        if (faultOf(q) != 0) {
            return faultOf(q);
        }
        int k = 1;
        while (modulo(power(nth(i), k), q) != 1) {
            k++;
        }
        return k;
    }

    int reach(int q) {
        return faultOf(q) != 0 ? faultOf(q) : reached(q).size();
    }

    int passes(int s, int q) {
        if (!isOf(s, 4)) {
            return -1;
        }
        return faultOf(q) != 0 ? faultOf(q) : passesBy(shelves[s], q, reached(q)) ? 1 : 0;
    }

    int left() {
        return LEFTS.computeIfAbsent(boxes + " " + new TreeSet<>(sieves), k -> {
            List<Fraction> still = new ArrayList<>(unitsInBox());
            for (int q : sieves) {
                Set<Integer> reached = reached(q);
                still.removeIf(f -> !passesBy(f, q, reached));
            }
            return still.size();
        });
    }

    int feed(int b) {
        if (b < 32 || b > 126) {
            return -2;
        }
        if (tape.length() == 60) {
            return -4;
        }
        tape += (char) b;
        return tape.length();
    }

    int wipe() {
        int n = tape.length();
        tape = "";
        return n;
    }

    int read(int s) {
        if (!isOf(s, 4)) {
            return -1;
        }
        String text = tape;
        tape = "";
        int fault = faultIn(text);
        if (fault >= 0) {
            return -100 - fault;
        }
        Fraction f = Fraction.WHOLE;
        String body = text.startsWith("-") ? text.substring(1) : text;
        for (String factor : body.split("\\*")) {
            String[] parts = factor.split("\\^");
            f = f.times(power(Integer.parseInt(parts[0]), parts.length == 1 ? 1 : Integer.parseInt(parts[1])));
        }
        return keepAs(s, text.startsWith("-") ? f.turned() : f, -9);
    }

    /** What the bytes so far are, and so what may stand behind them. */
    private enum Seen { NOTHING, MINUS, STAR, ONE_ALONE, FIRST_FIGURE, NUMBER, NO_PRIME, HAT, HAT_MINUS, POWER, FAULT }

    /** -1 if it is a text. */
    private int faultIn(String text) {
        Seen seen = Seen.NOTHING;
        for (int i = 0; i < text.length(); i++) {
            seen = next(seen, i == 0 ? ' ' : text.charAt(i - 1), text.charAt(i));
            if (seen == Seen.FAULT) {
                return i;
            }
        }
        boolean mayEnd = seen == Seen.ONE_ALONE || seen == Seen.NUMBER || seen == Seen.POWER
            || seen == Seen.FIRST_FIGURE && boxes.containsKey(text.charAt(text.length() - 1) - '0');
        return mayEnd ? -1 : text.length();
    }

    private Seen next(Seen seen, char before, char c) {
        String figures = "0123456789";
        boolean isNumberFirst = figures.indexOf(c) > 0;
        switch (seen) {
            case NOTHING:
            case MINUS:
                if (c == '-' && seen == Seen.NOTHING) {
                    return Seen.MINUS;
                }
                return c == '1' ? Seen.ONE_ALONE : isNumberFirst ? Seen.FIRST_FIGURE : Seen.FAULT;
            case STAR:
                return isNumberFirst ? Seen.FIRST_FIGURE : Seen.FAULT;
            case ONE_ALONE:
            case FIRST_FIGURE:
                if (figures.indexOf(c) >= 0) {
                    return boxes.containsKey(Integer.parseInt("" + before + c)) ? Seen.NUMBER : Seen.NO_PRIME;
                }
                return boxes.containsKey(before - '0') ? next(Seen.NUMBER, before, c) : Seen.FAULT;
            case NUMBER:
                return c == '*' ? Seen.STAR : c == '^' ? Seen.HAT : Seen.FAULT;
            case HAT:
            case HAT_MINUS:
                if (c == '-' && seen == Seen.HAT) {
                    return Seen.HAT_MINUS;
                }
                return "0123456".indexOf(c) >= 0 ? Seen.POWER : Seen.FAULT;
            case POWER:
                return c == '*' ? Seen.STAR : Seen.FAULT;
            default:
                return Seen.FAULT;
        }
    }

    int spelled(int s, int i) {
        if (!isOf(s, 4)) {
            return -1;
        }
        List<String> factors = new ArrayList<>();
        for (int p : boxes.keySet()) {
            int e = powerIn(shelves[s], p);
            if (e != 0) {
                factors.add(e == 1 ? "" + p : p + "^" + e);
            }
        }
        String text = (shelves[s].above.signum() < 0 ? "-" : "") + (factors.isEmpty() ? "1" : String.join("*", factors));
        return i == -1 ? text.length() : isOf(i, text.length()) ? text.charAt(i) : -1;
    }

    int list(int l, int n) {
        if (!isOf(l, 3)) {
            return -1;
        }
        if (n > 20 || n < -1) {
            return n > 20 ? -2 : -14;
        }
        lists[l] = n < 0 ? null : new long[n];
        return 1;
    }

    int lay(int l, int i, long v) {
        if (!isOf(l, 3)) {
            return -1;
        }
        if (lists[l] == null || !isOf(i, lists[l].length)) {
            return lists[l] == null ? -11 : -13;
        }
        lists[l][i] = v;
        return 1;
    }

    long get(int l, int i) {
        return isOf(l, 3) && lists[l] != null && isOf(i, lists[l].length) ? lists[l][i] : Long.MIN_VALUE;
    }

    private long[] told(int i, int n) {
        long[] row = new long[2 * n];
        for (int k = 0; k < row.length; k++) {
            row[k] = answer(i + k / 2, k % 2);
        }
        return row;
    }

    int film(int l, int i) {
        if (!isOf(l, 3) || !isOf(i, answers())) {
            return -1;
        }
        lists[l] = told(i, Math.min(10, answers() - i));
        return lists[l].length / 2;
    }

    int judge(int l, int i) {
        if (!isOf(l, 3) || i < 0) {
            return -1;
        }
        if (lists[l] == null) {
            return -11;
        }
        long[] rest = i < answers() ? told(i, answers() - i) : new long[0];
        int same = Arrays.mismatch(lists[l], rest);
        return same < 0 || same >= lists[l].length ? 100 + lists[l].length : same;
    }

    int image() {
        imageBoxes = new TreeMap<>(boxes);
        imageShelves = shelves.clone();
        imageSieves = new ArrayList<>(sieves);
        return boxes.size();
    }

    int undo() {
        if (imageBoxes == null) {
            return -3;
        }
        boxes = new TreeMap<>(imageBoxes);
        shelves = imageShelves.clone();
        sieves = new ArrayList<>(imageSieves);
        return boxes.size();
    }

    int count(int what) {
        int there = 0;
        int pairs = 0;
        for (long[] row : lists) {
            there += row == null ? 0 : 1;
        }
        for (Fraction f : shelves) {
            pairs += isPair(f) ? 1 : 0;
        }
        int[] all = {boxes.size(), sieves.size(), tape.length(), there, pairs};
        return isOf(what, 5) ? all[what] : -1;
    }
}
