import java.util.ArrayDeque;
import java.util.Deque;
import java.util.Random;

/** Random runs of all calls on an object and on SlowModel, which must answer alike. */
public final class ModelTest {
    private static final int RUNS = 300;
    // What later calls answer is free, so none is made.
    private static final int CALLS = 512;
    private static final int[] WILD = {Integer.MIN_VALUE, Integer.MAX_VALUE, -100, -7, -3, -2, -1, 5, 6, 7, 20, 21, 50, 51, 100, 1000};
    private static final int[] FRIENDS = {2, 3, 5, 7, 2, 3, 5, 11, 13, 17, 19, 23, 29, 31};
    private static final int[] ODD = {3, 5, 7, 11, 13, 17, 19, 23, 29, 31, 37, 41, 43, 47, 53, 59, 61, 67, 71, 73, 79, 83, 89, 97};

    private final Checks checks;
    private final Random random;
    private final SumsToOne x = new SumsToOne();
    private final SlowModel m = new SlowModel();
    private final Deque<String> last = new ArrayDeque<>();
    private int calls;
    private boolean isWrong;

    private ModelTest(Checks checks, long seed) {
        this.checks = checks;
        this.random = new Random(seed);
    }

    public static void main(String[] args) {
        int runs = args.length > 0 ? Integer.parseInt(args[0]) : RUNS;
        long from = args.length > 1 ? Long.parseLong(args[1]) : 1;
        Checks checks = new Checks("model");
        for (int run = 0; run < runs; run++) {
            new ModelTest(checks, from + run).play();
        }
        checks.end();
    }

    private void play() {
        int calm = random.nextInt(5);
        for (int i = 0; i < calm; i++) {
            primeCall(FRIENDS[random.nextInt(7)]);
        }
        while (hasRoomFor(1) && !isWrong) {
            call();
        }
        checks.holds("at most " + CALLS + " calls, not " + calls, calls <= CALLS);
    }

    private boolean hasRoomFor(int more) {
        return calls + more <= CALLS;
    }

    private void same(String call, long got, long want) {
        calls++;
        last.addLast(call + " = " + got);
        if (last.size() > 30) {
            last.removeFirst();
        }
        checks.due(call, got, want);
        if (got != want) {
            isWrong = true;
            last.forEach(System.out::println);
        }
    }

    /** Mostly 0 .. n - 1, sometimes just beyond, sometimes far beyond. */
    private int upTo(int n) {
        int kind = random.nextInt(20);
        if (kind == 0) {
            return WILD[random.nextInt(WILD.length)];
        }
        return kind == 1 ? random.nextInt(n + 3) - 2 : random.nextInt(n);
    }

    private int shelf() {
        return upTo(4);
    }

    private int place() {
        return upTo(Math.max(1, m.count(0)));
    }

    private int answerPlace() {
        return upTo(Math.max(1, m.answers()));
    }

    private int odd() {
        return random.nextInt(12) == 0 ? upTo(105) : ODD[random.nextInt(random.nextBoolean() ? 6 : ODD.length)];
    }

    private void primeCall(int p) {
        same("prime(" + p + ")", x.prime(p), m.prime(p));
    }

    private void call() {
        switch (random.nextInt(9)) {
            case 0: primesCall(); break;
            case 1: unitsCall(); break;
            case 2: productsCall(); break;
            case 3: answersCall(); break;
            case 4: groupsCall(); break;
            case 5: sievesCall(); break;
            case 6: textsCall(); break;
            case 7: listsCall(); break;
            default: restCall(); break;
        }
    }

    private void primesCall() {
        int i = place();
        switch (random.nextInt(9)) {
            case 0:
            case 1:
            case 2:
                primeCall(random.nextInt(6) == 0 ? upTo(40) : FRIENDS[random.nextInt(FRIENDS.length)]);
                break;
            case 3:
                if (random.nextInt(2) == 0) {
                    same("drop(" + i + ")", x.drop(i), m.drop(i));
                }
                break;
            case 4:
                same("primeOf(" + i + ")", x.primeOf(i), m.primeOf(i));
                break;
            case 5:
                same("boxOf(" + i + ")", x.boxOf(i), m.boxOf(i));
                break;
            default:
                int b = upTo(5);
                same("box(" + i + ", " + b + ")", x.box(i, b), m.box(i, b));
        }
    }

    private void unitsCall() {
        int s = shelf();
        int i = place();
        int e = upTo(13) - 6;
        int sign = random.nextInt(6) == 0 ? upTo(3) : random.nextBoolean() ? 1 : -1;
        int part = upTo(2);
        switch (random.nextInt(8)) {
            case 0:
            case 1: same("put(" + s + ", " + i + ", " + e + ")", x.put(s, i, e), m.put(s, i, e)); break;
            case 2: same("sign(" + s + ", " + sign + ")", x.sign(s, sign), m.sign(s, sign)); break;
            case 3: same("powerOf(" + s + ", " + i + ")", x.powerOf(s, i), m.powerOf(s, i)); break;
            case 4: same("height(" + s + ")", x.height(s), m.height(s)); break;
            case 5: same("isIn(" + s + ")", x.isIn(s), m.isIn(s)); break;
            default: same("value(" + s + ", " + part + ")", x.value(s, part), m.value(s, part)); break;
        }
    }

    private void productsCall() {
        int s = shelf();
        int o = shelf();
        int to = shelf();
        int k = upTo(6);
        switch (random.nextInt(5)) {
            case 0: same("times(" + s + ", " + o + ", " + to + ")", x.times(s, o, to), m.times(s, o, to)); break;
            case 1: same("over(" + s + ", " + o + ", " + to + ")", x.over(s, o, to), m.over(s, o, to)); break;
            case 2: same("partner(" + s + ", " + to + ")", x.partner(s, to), m.partner(s, to)); break;
            case 3: same("forms(" + s + ")", x.forms(s), m.forms(s)); break;
            default: same("form(" + s + ", " + k + ", " + to + ")", x.form(s, k, to), m.form(s, k, to)); break;
        }
    }

    private void answersCall() {
        int s = shelf();
        int i = answerPlace();
        int part = upTo(2);
        int n = upTo(52);
        int z = random.nextInt();
        switch (random.nextInt(6)) {
            case 0: same("answers()", x.answers(), m.answers()); break;
            case 1: same("take(" + i + ", " + s + ")", x.take(i, s), m.take(i, s)); break;
            case 2: same("which(" + s + ")", x.which(s), m.which(s)); break;
            case 3: same("lots(" + n + ", " + z + ")", x.lots(n, z), m.lots(n, z)); break;
            default: same("answer(" + i + ", " + part + ")", x.answer(i, part), m.answer(i, part)); break;
        }
    }

    private void groupsCall() {
        int i = answerPlace();
        int g = upTo(Math.max(1, m.groups()));
        int what = upTo(3);
        switch (random.nextInt(3)) {
            case 0: same("groups()", x.groups(), m.groups()); break;
            case 1: same("groupOf(" + i + ")", x.groupOf(i), m.groupOf(i)); break;
            default: same("group(" + g + ", " + what + ")", x.group(g, what), m.group(g, what)); break;
        }
    }

    private void sievesCall() {
        int q = odd();
        int i = place();
        int s = shelf();
        int at = upTo(5);
        switch (random.nextInt(8)) {
            case 0:
            case 1: same("sieve(" + q + ")", x.sieve(q), m.sieve(q)); break;
            case 2: same("sieveOf(" + at + ")", x.sieveOf(at), m.sieveOf(at)); break;
            case 3:
                int f = m.sieveOf(at) > 0 ? m.sieveOf(at) : q;
                same("forget(" + f + ")", x.forget(f), m.forget(f));
                break;
            case 4: same("order(" + i + ", " + q + ")", x.order(i, q), m.order(i, q)); break;
            case 5: same("reach(" + q + ")", x.reach(q), m.reach(q)); break;
            case 6: same("passes(" + s + ", " + q + ")", x.passes(s, q), m.passes(s, q)); break;
            default: same("left()", x.left(), m.left()); break;
        }
    }

    private String text() {
        StringBuilder text = new StringBuilder(random.nextInt(3) == 0 ? "-" : "");
        int factors = 1 + random.nextInt(random.nextInt(4) == 0 ? 14 : 3);
        for (int n = 0; n < factors; n++) {
            text.append(n > 0 ? "*" : "");
            int p = m.primeOf(random.nextInt(Math.max(1, m.count(0))));
            text.append(p < 0 || random.nextInt(15) == 0 ? random.nextInt(35) : p);
            if (random.nextBoolean()) {
                text.append('^').append(random.nextBoolean() ? "-" : "").append(random.nextInt(random.nextInt(5) == 0 ? 8 : 4));
            }
        }
        if (random.nextInt(5) == 0) {
            text.setLength(random.nextInt(text.length() + 1));
        }
        if (random.nextInt(5) == 0) {
            text.insert(random.nextInt(text.length() + 1), "-1*2^3 06x".charAt(random.nextInt(10)));
        }
        return text.toString();
    }

    private void textsCall() {
        int s = shelf();
        switch (random.nextInt(5)) {
            case 0:
            case 1:
                String text = text();
                if (!hasRoomFor(text.length() + 1)) {
                    return;
                }
                for (int i = 0; i < text.length(); i++) {
                    same("feed(" + text.charAt(i) + ")", x.feed(text.charAt(i)), m.feed(text.charAt(i)));
                }
                same("read(" + s + ")", x.read(s), m.read(s));
                break;
            case 2:
                int b = random.nextBoolean() ? 30 + random.nextInt(100) : upTo(200);
                same("feed(" + b + ")", x.feed(b), m.feed(b));
                break;
            case 3:
                same("wipe()", x.wipe(), m.wipe());
                break;
            default:
                for (int i = -2; i <= m.spelled(s, -1) && hasRoomFor(1); i++) {
                    same("spelled(" + s + ", " + i + ")", x.spelled(s, i), m.spelled(s, i));
                }
        }
    }

    private void listsCall() {
        int l = upTo(3);
        int i = upTo(21);
        int n = upTo(22) - 1;
        int at = answerPlace();
        long v = random.nextBoolean() ? random.nextInt(9) - 4 : random.nextLong();
        switch (random.nextInt(7)) {
            case 0: same("list(" + l + ", " + n + ")", x.list(l, n), m.list(l, n)); break;
            case 1: same("lay(" + l + ", " + i + ", " + v + ")", x.lay(l, i, v), m.lay(l, i, v)); break;
            case 2: same("get(" + l + ", " + i + ")", x.get(l, i), m.get(l, i)); break;
            case 3: same("film(" + l + ", " + at + ")", x.film(l, at), m.film(l, at)); break;
            case 4: same("judge(" + l + ", " + at + ")", x.judge(l, at), m.judge(l, at)); break;
            default: filmAndJudge(l, at, i); break;
        }
    }

    private void filmAndJudge(int l, int at, int i) {
        if (!hasRoomFor(3)) {
            return;
        }
        same("film(" + l + ", " + at + ")", x.film(l, at), m.film(l, at));
        if (random.nextBoolean()) {
            long v = m.get(l, i) + random.nextInt(2);
            same("lay(" + l + ", " + i + ", " + v + ")", x.lay(l, i, v), m.lay(l, i, v));
        }
        same("judge(" + l + ", " + at + ")", x.judge(l, at), m.judge(l, at));
    }

    private void restCall() {
        switch (random.nextInt(4)) {
            case 0: same("image()", x.image(), m.image()); break;
            case 1: same("undo()", x.undo(), m.undo()); break;
            default:
                int what = upTo(5);
                same("count(" + what + ")", x.count(what), m.count(what));
        }
    }
}
