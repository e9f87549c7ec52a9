/**
 * Each call that may be refused: just beyond what is taken and far beyond, on both sides; which answer
 * comes first where several are due; and that nothing has changed. And each call that asks: nothing
 * has changed either.
 */
public final class RefusedTest {
    private static final Checks C = new Checks("refused");
    private static final Watch W = new Watch(C);
    private static final int NONE = -1, BAD = -2, STATE = -3, FULL = -4, NOT = -5, OVER = -6, MISSING = -11, PLACE = -13, BELOW = -14;
    private static final long VOID = Long.MIN_VALUE;
    private static final int MIN = Integer.MIN_VALUE, MAX = Integer.MAX_VALUE;
    // No SHELF, and no GROUP's number nor place of a PRIME where there are four.
    private static final int[] NO_SHELF = {-1, 4, MIN, MAX};
    private static final int[] NO_PLACE_IN_RICH = {-1, 3, MIN, MAX};
    private static final int[] NO_ANSWER_IN_RICH = {-1, 15, MIN, MAX};
    private static final int[] NO_PART = {-1, 2, MIN, MAX};
    private static final int[] NO_LIST = {-1, 3, MIN, MAX};
    // Neither primes nor within 3 .. 97: just beyond, far beyond, and what is within but no odd prime.
    private static final int[] NO_SIEVE = {MIN, -3, -1, 0, 1, 2, 4, 9, 49, 91, 95, 96, 98, 99, 101, MAX};

    public static void main(String[] args) {
        primes();
        units();
        pairs();
        answers();
        sieves();
        texts();
        lists();
        image();
        askedOfPrimesAndUnits();
        askedOfAnswers();
        askedOfSievesAndTheRest();
        C.end();
    }

    // ---- primes, boxes

    private static void primes() {
        primeBad();
        primeState();
        primeFull();
        dropNone();
        boxRefused();
        for (int i : NO_PLACE_IN_RICH) {
            W.refused("primeOf NONE " + i, Watch::rich, x -> x.primeOf(i), NONE);
            W.refused("boxOf NONE " + i, Watch::rich, x -> x.boxOf(i), NONE);
        }
        for (int i : NO_SHELF) {
            W.refused("primeOf NONE of four " + i, Watch::full, x -> x.primeOf(i), NONE);
            W.refused("boxOf NONE of four " + i, Watch::full, x -> x.boxOf(i), NONE);
        }
        W.refused("primeOf NONE of none", Watch::empty, x -> x.primeOf(0), NONE);
        W.refused("boxOf NONE of none", Watch::empty, x -> x.boxOf(0), NONE);
    }

    private static void primeBad() {
        for (int p : new int[] {MIN, -31, -2, -1, 0, 1, 4, 9, 15, 21, 25, 27, 30, 32, 33, 37, MAX}) {
            W.refused("prime BAD " + p, Watch::rich, x -> x.prime(p), BAD);
            W.refused("prime BAD ahead of FULL " + p, Watch::full, x -> x.prime(p), BAD);
        }
    }

    private static void primeState() {
        for (int p : new int[] {2, 3, 31}) {
            W.refused("prime STATE " + p, Watch::rich, x -> x.prime(p), STATE);
        }
        for (int p : new int[] {2, 3, 5, 7}) {
            W.refused("prime STATE ahead of four are there " + p, Watch::full, x -> x.prime(p), STATE);
        }
        W.refused("prime STATE ahead of above 1000", () -> Checks.of(2, 17, 29), x -> x.prime(29), STATE);
    }

    private static void primeFull() {
        for (int p : new int[] {11, 13, 31}) {
            W.refused("prime FULL: four are there " + p, Watch::full, x -> x.prime(p), FULL);
        }
        // 186 together with 5 is 930, with 7 it is 1302.
        W.refused("prime FULL: above 1000", Watch::rich, x -> x.prime(7), FULL);
        W.refused("prime FULL: 1001", () -> Checks.of(7, 11), x -> x.prime(13), FULL);
        W.refused("prime FULL: keeps a sieve", Watch::full, x -> x.prime(13), FULL);
        W.refused("prime FULL: 2 with 899", () -> Checks.of(31, 29), x -> x.prime(2), FULL);
    }

    private static void dropNone() {
        for (int i : NO_PLACE_IN_RICH) {
            W.refused("drop NONE " + i, Watch::rich, x -> x.drop(i), NONE);
        }
        for (int i : NO_SHELF) {
            W.refused("drop NONE of four " + i, Watch::full, x -> x.drop(i), NONE);
        }
        W.refused("drop NONE of none", Watch::empty, x -> x.drop(0), NONE);
    }

    private static void boxRefused() {
        for (int i : NO_PLACE_IN_RICH) {
            W.refused("box NONE " + i, Watch::rich, x -> x.box(i, 1), NONE);
            W.refused("box NONE ahead of BAD " + i, Watch::rich, x -> x.box(i, 5), NONE);
        }
        W.refused("box NONE of four", Watch::full, x -> x.box(4, 1), NONE);
        W.refused("box NONE of none", Watch::empty, x -> x.box(0, 1), NONE);
        for (int b : new int[] {-1, 5, MIN, MAX}) {
            for (int i = 0; i < 3; i++) {
                int place = i;
                W.refused("box BAD " + b, Watch::rich, x -> x.box(place, b), BAD);
            }
        }
    }

    // ---- units

    private static void units() {
        for (int shelf : NO_SHELF) {
            W.refused("put NONE shelf " + shelf, Watch::rich, x -> x.put(shelf, 0, 1), NONE);
            W.refused("put NONE shelf ahead of BAD " + shelf, Watch::rich, x -> x.put(shelf, 0, 7), NONE);
            W.refused("sign NONE " + shelf, Watch::rich, x -> x.sign(shelf, -1), NONE);
            W.refused("sign NONE ahead of BAD " + shelf, Watch::rich, x -> x.sign(shelf, 0), NONE);
            W.refused("powerOf NONE shelf " + shelf, Watch::rich, x -> x.powerOf(shelf, 0), NONE);
            W.refused("value VOID shelf " + shelf, Watch::rich, x -> x.value(shelf, 0), VOID);
            W.refused("height NONE " + shelf, Watch::rich, x -> x.height(shelf), NONE);
            W.refused("isIn NONE " + shelf, Watch::rich, x -> x.isIn(shelf), NONE);
        }
        for (int i : NO_PLACE_IN_RICH) {
            W.refused("put NONE i " + i, Watch::rich, x -> x.put(0, i, 1), NONE);
            W.refused("put NONE i ahead of BAD " + i, Watch::rich, x -> x.put(0, i, -7), NONE);
            W.refused("powerOf NONE i " + i, Watch::rich, x -> x.powerOf(0, i), NONE);
        }
        W.refused("put NONE of none", Watch::empty, x -> x.put(0, 0, 0), NONE);
        W.refused("powerOf NONE of none", Watch::empty, x -> x.powerOf(0, 0), NONE);
        W.refused("put NONE of four", Watch::full, x -> x.put(0, 4, 0), NONE);
        W.refused("powerOf NONE of four", Watch::full, x -> x.powerOf(0, 4), NONE);
        for (int e : new int[] {-7, 7, MIN, MAX}) {
            W.refused("put BAD " + e, Watch::rich, x -> x.put(2, 0, e), BAD);
        }
        for (int s : new int[] {0, 2, -2, MIN, MAX}) {
            W.refused("sign BAD " + s, Watch::rich, x -> x.sign(0, s), BAD);
        }
        for (int part : NO_PART) {
            W.refused("value VOID part " + part, Watch::rich, x -> x.value(0, part), VOID);
        }
        productsRefused();
    }

    private static void productsRefused() {
        for (int shelf : NO_SHELF) {
            W.refused("times NONE first " + shelf, Watch::rich, x -> x.times(shelf, 1, 0), NONE);
            W.refused("times NONE second " + shelf, Watch::rich, x -> x.times(1, shelf, 0), NONE);
            W.refused("times NONE to, ahead of OVER " + shelf, Watch::rich, x -> x.times(2, 2, shelf), NONE);
            W.refused("over NONE first " + shelf, Watch::rich, x -> x.over(shelf, 1, 0), NONE);
            W.refused("over NONE second " + shelf, Watch::rich, x -> x.over(1, shelf, 0), NONE);
            W.refused("over NONE to, ahead of OVER " + shelf, Watch::rich, x -> x.over(0, 2, shelf), NONE);
        }
        // SHELF 2 holds 2^6 and 3^-6: with 2 it is 7, with 3^-1 it is -7.
        for (int to = 0; to < 4; to++) {
            int shelf = to;
            W.refused("times OVER 2^12 to " + to, Watch::rich, x -> x.times(2, 2, shelf), OVER);
            W.refused("times OVER 2^9 to " + to, Watch::rich, x -> x.times(0, 2, shelf), OVER);
            W.refused("times OVER 2^7 and 3^-7 to " + to, Watch::rich, x -> x.times(2, 3, shelf), OVER);
        }
        W.refused("times OVER 2^7 alone", () -> twoUnits("2^6", "2"), x -> x.times(0, 1, 0), OVER);
        W.refused("times OVER 2^-7 alone", () -> twoUnits("2^-6", "2^-1"), x -> x.times(0, 1, 1), OVER);
        W.refused("times OVER at the last prime", () -> twoUnits("2*31^6", "31"), x -> x.times(1, 0, 2), OVER);
        W.refused("over OVER 2^7", () -> twoUnits("2^6", "2^-1"), x -> x.over(0, 1, 0), OVER);
        W.refused("over OVER 2^-7", () -> twoUnits("2^-6", "2"), x -> x.over(0, 1, 1), OVER);
        W.refused("over OVER at the last prime", () -> twoUnits("31^-6", "31"), x -> x.over(0, 1, 2), OVER);
    }

    private static SumsToOne twoUnits(String first, String second) {
        SumsToOne x = Checks.of(2, 3, 31);
        Checks.read(x, 0, first);
        Checks.read(x, 1, second);
        Checks.read(x, 2, "-3");
        x.image();
        return x;
    }

    private static void pairs() {
        for (int shelf : NO_SHELF) {
            W.refused("partner NONE shelf " + shelf, Watch::rich, x -> x.partner(shelf, 1), NONE);
            W.refused("partner NONE to " + shelf, Watch::rich, x -> x.partner(0, shelf), NONE);
            W.refused("partner NONE to, ahead of NOT " + shelf, Watch::rich, x -> x.partner(1, shelf), NONE);
            W.refused("form NONE shelf " + shelf, Watch::rich, x -> x.form(shelf, 0, 1), NONE);
            W.refused("form NONE to " + shelf, Watch::rich, x -> x.form(0, 1, shelf), NONE);
            W.refused("form NONE to, ahead of NOT " + shelf, Watch::rich, x -> x.form(1, 1, shelf), NONE);
            W.refused("forms NONE " + shelf, Watch::rich, x -> x.forms(shelf), NONE);
        }
        for (int k : new int[] {-1, 6, MIN, MAX}) {
            W.refused("form NONE k " + k, Watch::rich, x -> x.form(0, k, 1), NONE);
            W.refused("form NONE k, ahead of NOT " + k, Watch::rich, x -> x.form(1, k, 0), NONE);
        }
        for (int to = 0; to < 4; to++) {
            int shelf = to;
            W.refused("partner NOT of 1 to " + to, Watch::rich, x -> x.partner(1, shelf), NOT);
            W.refused("partner NOT of no pair to " + to, Watch::rich, x -> x.partner(2, shelf), NOT);
            W.refused("partner NOT without primes", Watch::empty, x -> x.partner(0, shelf), NOT);
        }
        for (int k = 0; k < 6; k++) {
            int form = k;
            W.refused("form NOT of 1, k " + k, Watch::rich, x -> x.form(1, form, 0), NOT);
            W.refused("form NOT of no pair, k " + k, Watch::rich, x -> x.form(2, form, 3), NOT);
            W.refused("form NOT without primes, k " + k, Watch::empty, x -> x.form(0, form, 1), NOT);
        }
        W.refused("forms NOT of 1", Watch::rich, x -> x.forms(1), NOT);
        W.refused("forms NOT of no pair", Watch::rich, x -> x.forms(2), NOT);
        W.refused("forms NOT without primes", Watch::empty, x -> x.forms(0), NOT);
        partnerBeyondTheRange();
    }

    /** 3 by 125 below 0 has 128 by 125 for a partner, which is 2 to the 7th: no UNIT. */
    private static void partnerBeyondTheRange() {
        Watch.Maker maker = () -> {
            SumsToOne x = Checks.of(2, 3, 5);
            Checks.read(x, 0, "-3*5^-3");
            Checks.read(x, 1, "2");
            return x;
        };
        W.refused("partner NOT: power 7", maker, x -> x.partner(0, 1), NOT);
        W.refused("forms NOT: power 7", maker, x -> x.forms(0), NOT);
        for (int k = 0; k < 6; k++) {
            int form = k;
            W.refused("form NOT: power 7, k " + k, maker, x -> x.form(0, form, 1), NOT);
        }
    }

    // ---- answers

    private static void answers() {
        for (int i : NO_ANSWER_IN_RICH) {
            W.refused("answer VOID i " + i, Watch::rich, x -> x.answer(i, 0), VOID);
            W.refused("answer VOID i " + i, Watch::rich, x -> x.answer(i, 1), VOID);
            W.refused("take NONE i " + i, Watch::rich, x -> x.take(i, 0), NONE);
            W.refused("groupOf NONE " + i, Watch::rich, x -> x.groupOf(i), NONE);
        }
        for (int i : new int[] {-1, 261, MIN, MAX}) {
            W.refused("answer VOID of most " + i, Watch::full, x -> x.answer(i, 1), VOID);
            W.refused("take NONE of most " + i, Watch::full, x -> x.take(i, 0), NONE);
            W.refused("groupOf NONE of most " + i, Watch::full, x -> x.groupOf(i), NONE);
        }
        W.refused("answer VOID of none", Watch::empty, x -> x.answer(0, 0), VOID);
        W.refused("take NONE of none", Watch::empty, x -> x.take(0, 0), NONE);
        W.refused("groupOf NONE of none", Watch::empty, x -> x.groupOf(0), NONE);
        for (int part : NO_PART) {
            W.refused("answer VOID part " + part, Watch::rich, x -> x.answer(0, part), VOID);
        }
        for (int shelf : NO_SHELF) {
            W.refused("take NONE shelf " + shelf, Watch::rich, x -> x.take(0, shelf), NONE);
            W.refused("which NONE " + shelf, Watch::rich, x -> x.which(shelf), NONE);
        }
        groupRefused();
        whichNot();
        for (int n : new int[] {0, -1, 51, MIN, MAX}) {
            W.refused("lots BAD " + n, Watch::rich, x -> x.lots(n, 1), BAD);
            W.refused("lots BAD without primes " + n, Watch::empty, x -> x.lots(n, 1), BAD);
        }
    }

    private static void groupRefused() {
        for (int what = 0; what < 3; what++) {
            int asked = what;
            for (int g : NO_PLACE_IN_RICH) {
                W.refused("group NONE g " + g, Watch::rich, x -> x.group(g, asked), NONE);
            }
            for (int g : new int[] {-1, 44, MIN, MAX}) {
                W.refused("group NONE of most " + g, Watch::full, x -> x.group(g, asked), NONE);
            }
            W.refused("group NONE of none", Watch::empty, x -> x.group(0, asked), NONE);
        }
        for (int what : new int[] {-1, 3, MIN, MAX}) {
            W.refused("group NONE what " + what, Watch::rich, x -> x.group(0, what), NONE);
        }
    }

    private static void whichNot() {
        W.refused("which NOT: a pair beyond the box", Watch::rich, x -> x.which(0), NOT);
        W.refused("which NOT: 1", Watch::rich, x -> x.which(1), NOT);
        W.refused("which NOT: beyond the box", Watch::rich, x -> x.which(2), NOT);
        W.refused("which NOT: no pair", Watch::rich, x -> x.which(3), NOT);
        W.refused("which NOT: no primes", Watch::empty, x -> x.which(0), NOT);
    }

    // ---- sieves

    private static void sieves() {
        for (int q : NO_SIEVE) {
            W.refused("sieve BAD " + q, Watch::rich, x -> x.sieve(q), BAD);
            W.refused("sieve BAD of four " + q, Watch::full, x -> x.sieve(q), BAD);
            W.refused("order BAD " + q, Watch::rich, x -> x.order(0, q), BAD);
            W.refused("order NONE ahead of BAD " + q, Watch::rich, x -> x.order(3, q), NONE);
            W.refused("reach BAD " + q, Watch::rich, x -> x.reach(q), BAD);
            W.refused("passes BAD " + q, Watch::rich, x -> x.passes(0, q), BAD);
            W.refused("passes NONE ahead of BAD " + q, Watch::rich, x -> x.passes(4, q), NONE);
            W.refused("forget NONE " + q, Watch::rich, x -> x.forget(q), NONE);
        }
        for (int q : new int[] {3, 31}) {
            W.refused("sieve STATE " + q, Watch::rich, x -> x.sieve(q), STATE);
            W.refused("order STATE " + q, Watch::rich, x -> x.order(0, q), STATE);
            W.refused("order STATE of itself " + q, Watch::rich, x -> x.order(1, q), STATE);
            W.refused("order NONE ahead of STATE " + q, Watch::rich, x -> x.order(-1, q), NONE);
            W.refused("reach STATE " + q, Watch::rich, x -> x.reach(q), STATE);
            W.refused("passes STATE " + q, Watch::rich, x -> x.passes(0, q), STATE);
            W.refused("passes NONE ahead of STATE " + q, Watch::rich, x -> x.passes(-1, q), NONE);
            W.refused("forget NONE of a prime " + q, Watch::rich, x -> x.forget(q), NONE);
        }
        for (int i : NO_PLACE_IN_RICH) {
            W.refused("order NONE i " + i, Watch::rich, x -> x.order(i, 5), NONE);
        }
        for (int shelf : NO_SHELF) {
            W.refused("passes NONE " + shelf, Watch::rich, x -> x.passes(shelf, 5), NONE);
            W.refused("sieveOf NONE of four " + shelf, Watch::full, x -> x.sieveOf(shelf), NONE);
        }
        for (int i : new int[] {-1, 2, MIN, MAX}) {
            W.refused("sieveOf NONE " + i, Watch::rich, x -> x.sieveOf(i), NONE);
        }
        W.refused("sieveOf NONE of none", Watch::empty, x -> x.sieveOf(0), NONE);
        W.refused("order NONE of none", Watch::empty, x -> x.order(0, 5), NONE);
        W.refused("forget NONE of none", Watch::empty, x -> x.forget(3), NONE);
        W.refused("forget NONE: one that went", Watch::rich, x -> x.forget(13), NONE);
        W.refused("forget NONE: 0, which none is", Watch::empty, x -> x.forget(0), NONE);
        W.refused("forget NONE: one of another time", Watch::full, x -> x.forget(17), NONE);
    }

    // ---- texts

    private static void texts() {
        for (int letter : new int[] {MIN, -1, 0, 9, 10, 31, 127, 128, 255, 256 + 50, MAX}) {
            W.refused("feed BAD " + letter, Watch::rich, x -> x.feed(letter), BAD);
            W.refused("feed BAD of none " + letter, Watch::empty, x -> x.feed(letter), BAD);
            W.refused("feed BAD ahead of FULL " + letter, Watch::full, x -> x.feed(letter), BAD);
        }
        for (int letter : new int[] {32, 50, 126}) {
            W.refused("feed FULL " + letter, Watch::full, x -> x.feed(letter), FULL);
        }
        for (int shelf : NO_SHELF) {
            W.refused("read NONE: the tape stays " + shelf, Watch::rich, x -> x.read(shelf), NONE);
            W.refused("read NONE of a full tape " + shelf, Watch::full, x -> x.read(shelf), NONE);
            W.refused("read NONE of an empty tape, ahead of the fault " + shelf, Watch::empty, x -> x.read(shelf), NONE);
            W.refused("spelled NONE shelf " + shelf, Watch::rich, x -> x.spelled(shelf, 0), NONE);
            W.refused("spelled NONE shelf, how many " + shelf, Watch::rich, x -> x.spelled(shelf, -1), NONE);
        }
        // SHELF 0 is spelled -2^3.
        for (int i : new int[] {-2, 4, MIN, MAX}) {
            W.refused("spelled NONE i " + i, Watch::rich, x -> x.spelled(0, i), NONE);
        }
        W.refused("wipe of nothing", Watch::empty, x -> x.wipe(), 0);
        readRefused("an empty text", "", -100);
        readRefused("a fault", "2^3*x", -104);
        readRefused("an end too early", "-2*3^", -105);
        readRefused("a number that is no prime", "2*5", -103);
        readRefused("a wrong one", "2^6*3*2", -9);
        readRefused("a wrong one below", "-3^-6*3^-1", -9);
        readRefused("a fault behind a wrong one", "2^6*2^6*", -108);
    }

    /** What is refused leaves all but the tape, so it is as after a wipe. */
    private static void readRefused(String name, String text, int due) {
        for (int shelf = 0; shelf < 4; shelf++) {
            SumsToOne x = Watch.rich();
            x.wipe();
            Checks.feed(x, text);
            C.due("read " + name, x.read(shelf), due);
            SumsToOne wiped = Watch.rich();
            wiped.wipe();
            C.holds("read " + name + " changes the tape alone", Watch.seen(x).equals(Watch.seen(wiped)));
        }
    }

    // ---- lists

    private static void lists() {
        for (int list : NO_LIST) {
            W.refused("list NONE " + list, Watch::rich, x -> x.list(list, 1), NONE);
            W.refused("list NONE, missing " + list, Watch::rich, x -> x.list(list, -1), NONE);
            W.refused("list NONE ahead of BAD " + list, Watch::rich, x -> x.list(list, 21), NONE);
            W.refused("list NONE ahead of BELOW " + list, Watch::rich, x -> x.list(list, -2), NONE);
            W.refused("lay NONE " + list, Watch::rich, x -> x.lay(list, 0, 5), NONE);
            W.refused("lay NONE ahead of MISSING " + list, Watch::empty, x -> x.lay(list, -1, 5), NONE);
            W.refused("get VOID list " + list, Watch::rich, x -> x.get(list, 0), VOID);
            W.refused("film NONE list " + list, Watch::rich, x -> x.film(list, 0), NONE);
            W.refused("judge NONE list " + list, Watch::rich, x -> x.judge(list, 0), NONE);
        }
        for (int list = 0; list < 3; list++) {
            listRefused(list);
        }
        for (int i : new int[] {-1, 3, 19, 20, MIN, MAX}) {
            W.refused("lay PLACE " + i, Watch::rich, x -> x.lay(0, i, 5), PLACE);
            W.refused("get VOID place " + i, Watch::rich, x -> x.get(0, i), VOID);
        }
        for (int i : new int[] {-1, 20, MIN, MAX}) {
            W.refused("lay PLACE of a full list " + i, Watch::full, x -> x.lay(2, i, 5), PLACE);
            W.refused("get VOID of a full list " + i, Watch::full, x -> x.get(2, i), VOID);
        }
        for (int i : new int[] {-1, 0, 1, MIN, MAX}) {
            W.refused("lay PLACE of an empty list " + i, Watch::rich, x -> x.lay(2, i, 5), PLACE);
            W.refused("get VOID of an empty list " + i, Watch::rich, x -> x.get(2, i), VOID);
            W.refused("lay MISSING ahead of PLACE " + i, Watch::rich, x -> x.lay(1, i, 5), MISSING);
            W.refused("get VOID of a missing list " + i, Watch::rich, x -> x.get(1, i), VOID);
        }
        filmAndJudgeRefused();
    }

    private static void listRefused(int list) {
        for (int n : new int[] {21, 22, MAX}) {
            W.refused("list BAD " + n, Watch::rich, x -> x.list(list, n), BAD);
            W.refused("list BAD of a full one " + n, Watch::full, x -> x.list(list, n), BAD);
        }
        for (int n : new int[] {-2, -3, MIN}) {
            W.refused("list BELOW " + n, Watch::rich, x -> x.list(list, n), BELOW);
            W.refused("list BELOW of a full one " + n, Watch::full, x -> x.list(list, n), BELOW);
        }
    }

    private static void filmAndJudgeRefused() {
        for (int list = 0; list < 3; list++) {
            int into = list;
            for (int i : NO_ANSWER_IN_RICH) {
                W.refused("film NONE i " + i, Watch::rich, x -> x.film(into, i), NONE);
            }
            W.refused("film NONE of most", Watch::full, x -> x.film(into, 261), NONE);
            W.refused("film NONE of none", Watch::empty, x -> x.film(into, 0), NONE);
            for (int i : new int[] {-1, MIN}) {
                W.refused("judge NONE i, ahead of MISSING " + i, Watch::rich, x -> x.judge(into, i), NONE);
            }
            W.refused("judge MISSING at first", Watch::empty, x -> x.judge(into, 0), MISSING);
        }
        for (int i : new int[] {0, 14, 15, MAX}) {
            W.refused("judge MISSING, even beyond all answers " + i, Watch::rich, x -> x.judge(1, i), MISSING);
        }
    }

    // ---- the image

    private static void image() {
        W.refused("undo STATE", Watch::empty, x -> x.undo(), STATE);
        W.refused("undo STATE of a full one", RefusedTest::fullWithoutImage, x -> x.undo(), STATE);
        for (int what : new int[] {-1, 5, MIN, MAX}) {
            W.refused("count NONE " + what, Watch::rich, x -> x.count(what), NONE);
        }
    }

    private static SumsToOne fullWithoutImage() {
        SumsToOne x = Checks.of(2, 3, 5, 7);
        x.sieve(11);
        x.put(0, 3, -6);
        x.list(1, 2);
        Checks.feed(x, "7");
        return x;
    }

    // ---- what is asked changes nothing

    private static void askedOfPrimesAndUnits() {
        W.asked("primeOf", Watch::rich, x -> x.primeOf(2), 31);
        W.asked("boxOf", Watch::rich, x -> x.boxOf(2), 0);
        W.asked("powerOf", Watch::rich, x -> x.powerOf(2, 1), 4);
        W.asked("value above", Watch::rich, x -> x.value(2, 0), 64L * 961);
        W.asked("value below", Watch::rich, x -> x.value(2, 1), 729);
        W.asked("height", Watch::rich, x -> x.height(2), 6);
        W.asked("isIn 0", Watch::rich, x -> x.isIn(2), 0);
        W.asked("isIn 1", Watch::rich, x -> x.isIn(3), 1);
        W.asked("forms", Watch::rich, x -> x.forms(0), 6);
    }

    private static void askedOfAnswers() {
        W.asked("answers", Watch::rich, x -> x.answers(), 15);
        W.asked("answers of most", Watch::full, x -> x.answers(), 261);
        W.asked("answers of none", Watch::empty, x -> x.answers(), 0);
        W.asked("answer above", Watch::rich, x -> x.answer(14, 0), 3);
        W.asked("answer below", Watch::rich, x -> x.answer(14, 1), 4);
        W.asked("which", () -> taken(7), x -> x.which(0), 7);
        W.asked("groups", Watch::rich, x -> x.groups(), 3);
        W.asked("groups of most", Watch::full, x -> x.groups(), 44);
        W.asked("groups of none", Watch::empty, x -> x.groups(), 0);
        W.asked("groupOf", Watch::rich, x -> x.groupOf(7), 2);
        W.asked("group size", Watch::rich, x -> x.group(2, 0), 3);
        W.asked("group first", Watch::rich, x -> x.group(2, 1), 2);
        W.asked("group height", Watch::rich, x -> x.group(0, 2), 2);
        W.asked("lots", Watch::rich, x -> x.lots(50, 4711), Watch.rich().lots(50, 4711));
        W.asked("lots of most", Watch::full, x -> x.lots(50, -1), Watch.full().lots(50, -1));
    }

    private static SumsToOne taken(int i) {
        SumsToOne x = Watch.rich();
        x.take(i, 0);
        return x;
    }

    private static void askedOfSievesAndTheRest() {
        W.asked("sieveOf", Watch::rich, x -> x.sieveOf(0), 89);
        W.asked("order of no sieve", Watch::rich, x -> x.order(0, 97), 48);
        W.asked("order of the first sieve, which stays ahead", Watch::rich, x -> x.order(0, 89), 11);
        W.asked("reach of no sieve", Watch::rich, x -> x.reach(97), 48);
        W.asked("reach of the first sieve, which stays ahead", Watch::rich, x -> x.reach(89), 88);
        W.asked("passes", Watch::rich, x -> x.passes(0, 89), 1);
        W.asked("passes not", Watch::rich, x -> x.passes(1, 97), 0);
        W.asked("left", Watch::empty, x -> x.left(), 2);
        W.asked("left of most", Watch::full, x -> x.left(), Watch.full().left());
        W.asked("spelled", Watch::rich, x -> x.spelled(0, 0), '-');
        W.asked("spelled, how many", Watch::rich, x -> x.spelled(0, -1), 4);
        W.asked("get", Watch::rich, x -> x.get(0, 2), 77);
        W.asked("judge", Watch::rich, x -> x.judge(0, 0), 2);
        W.asked("judge of an empty list", Watch::rich, x -> x.judge(2, MAX), 100);
        W.asked("count primes", Watch::rich, x -> x.count(0), 3);
        W.asked("count sieves", Watch::rich, x -> x.count(1), 2);
        W.asked("count bytes", Watch::rich, x -> x.count(2), 7);
        W.asked("count lists", Watch::rich, x -> x.count(3), 2);
        W.asked("count pairs", Watch::rich, x -> x.count(4), 1);
    }
}
