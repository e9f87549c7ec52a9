import java.util.ArrayList;
import java.util.List;
import java.util.TreeSet;

/**
 * The document's terms, sentence by sentence: the last that is taken and the first that is not, the
 * empty and the full, what wraps around. What a refused call leaves is looked at in RefusedTest.
 */
public final class BoundsTest {
    private static final Checks C = new Checks("bounds");
    private static final int NONE = -1, BAD = -2, STATE = -3, FULL = -4, NOT = -5, OVER = -6, MISSING = -11, PLACE = -13, BELOW = -14;
    private static final long VOID = Long.MIN_VALUE;
    private static final int MIN = Integer.MIN_VALUE, MAX = Integer.MAX_VALUE;
    private static final int[] ALL_PRIMES = {2, 3, 5, 7, 11, 13, 17, 19, 23, 29, 31};
    private static final int[] ALL_SIEVES = {3, 5, 7, 11, 13, 17, 19, 23, 29, 31, 37, 41, 43, 47, 53, 59, 61, 67, 71, 73, 79, 83, 89, 97};

    public static void main(String[] args) {
        anObjectIsUsedFor512Calls();
        primesAreOf2To31();
        primesTogetherAre1000AtMost();
        primesAreRising();
        primesAreNoneAtFirstAndFourAtMost();
        boxes();
        powers();
        fractionsAreInLowestTerms();
        theGreatestFractions();
        inTheBox();
        heights();
        allFourPlacesCount();
        productsAtTheRange();
        partners();
        formsAtTheRange();
        formsOfAllPairs();
        answersOfNoneAndOfMost();
        answersByWhatIsBelowThenAbove();
        answersNeedBothInTheBox();
        groupsByTheirFirstAnswers();
        answersOfBoxesThatGrewAndShrank();
        shelves();
        aPrimeThatComesAndGoes();
        sieveNumbers();
        sieveOrder();
        aSieveThatBecomesAPrime();
        reachAndOrder();
        passing();
        left();
        lotsAtTheirBounds();
        lotsWrap();
        theTape();
        aTextOfSixtyBytes();
        powersThatAreAdded();
        spelledAtItsBounds();
        lists();
        films();
        judged();
        theImage();
        theImageOfNothing();
        countsOfNoneAndOfAll();
        C.end();
    }

    /** An object is used for at most 512 calls: the last of them is answered as the first one. */
    private static void anObjectIsUsedFor512Calls() {
        SumsToOne x = new SumsToOne();
        int calls = 0;
        for (int n = 0; n < 64; n++) {
            C.due("512 prime", x.prime(2), 1);
            C.due("512 feed", x.feed('-'), 1);
            C.due("512 feed", x.feed('2'), 2);
            C.due("512 read", x.read(0), 1);
            C.due("512 image", x.image(), 1);
            C.due("512 sieve", x.sieve(ALL_SIEVES[n % ALL_SIEVES.length]), Math.min(n + 1, 4));
            C.due("512 answers", x.answers(), 3);
            C.due("512 drop", x.drop(0), 0);
            calls += 8;
        }
        C.due("512 calls", calls, 512);
    }

    /** 0 .. 4 primes of 2 .. 31. */
    private static void primesAreOf2To31() {
        List<Integer> taken = new ArrayList<>();
        for (int p = -40; p <= 1100; p++) {
            int got = new SumsToOne().prime(p);
            C.holds("prime " + p + " is taken or BAD", got == 1 || got == BAD);
            if (got == 1) {
                taken.add(p);
            }
        }
        C.holds("the primes: " + taken, taken.equals(List.of(2, 3, 5, 7, 11, 13, 17, 19, 23, 29, 31)));
        for (int p : new int[] {MIN, MIN + 1, MAX, MAX - 1, 65536 + 2, 65536 + 3}) {
            C.due("prime BAD " + p, new SumsToOne().prime(p), BAD);
        }
    }

    /** Multiplied together they are 1000 at most: all sets of primes, in both orders. */
    private static void primesTogetherAre1000AtMost() {
        int greatestTaken = 0;
        int leastRefused = MAX;
        for (int set = 0; set < 1 << ALL_PRIMES.length; set++) {
            if (Integer.bitCount(set) > 4) {
                continue;
            }
            int product = 1;
            for (int k = 0; k < ALL_PRIMES.length; k++) {
                product *= (set >> k & 1) == 1 ? ALL_PRIMES[k] : 1;
            }
            C.holds("rising, together " + product, allComeUnlessAbove1000(set, false) == (product <= 1000));
            C.holds("falling, together " + product, allComeUnlessAbove1000(set, true) == (product <= 1000));
            greatestTaken = product <= 1000 ? Math.max(product, greatestTaken) : greatestTaken;
            leastRefused = product > 1000 ? Math.min(product, leastRefused) : leastRefused;
        }
        C.due("the greatest that is taken", greatestTaken, 986);
        C.due("the least that is not", leastRefused, 1001);
    }

    /** Whether all come; each that does not must be answered FULL, and must be above 1000 with those that are there. */
    private static boolean allComeUnlessAbove1000(int set, boolean isFalling) {
        SumsToOne x = new SumsToOne();
        int together = 1;
        boolean allCame = true;
        for (int n = 0; n < ALL_PRIMES.length; n++) {
            int k = isFalling ? ALL_PRIMES.length - 1 - n : n;
            if ((set >> k & 1) == 0) {
                continue;
            }
            int p = ALL_PRIMES[k];
            boolean fits = together * p <= 1000;
            int before = x.count(0);
            C.due("prime " + p + " to " + together, x.prime(p), fits ? before + 1 : FULL);
            together = fits ? together * p : together;
            allCame &= fits;
        }
        return allCame;
    }

    /** Rising, no two alike, in whichever order they come. */
    private static void primesAreRising() {
        int[] four = {2, 3, 7, 23};
        for (int order = 0; order < 256; order++) {
            int[] places = {order & 3, order >> 2 & 3, order >> 4 & 3, order >> 6 & 3};
            SumsToOne x = new SumsToOne();
            TreeSet<Integer> there = new TreeSet<>();
            for (int place : places) {
                boolean isNew = there.add(four[place]);
                C.due("comes or is there", x.prime(four[place]), isNew ? there.size() : STATE);
            }
            int i = 0;
            for (int p : there) {
                C.due("rising", x.primeOf(i), p);
                i++;
            }
            C.due("no more", x.primeOf(i), NONE);
        }
    }

    /** None at first; four at most, whatever they are; room again behind a drop. */
    private static void primesAreNoneAtFirstAndFourAtMost() {
        SumsToOne x = new SumsToOne();
        C.due("none at first", x.count(0), 0);
        C.due("no first one", x.primeOf(0), NONE);
        C.due("1", x.prime(5), 1);
        C.due("2", x.prime(3), 2);
        C.due("3", x.prime(2), 3);
        C.due("4", x.prime(7), 4);
        C.due("a fifth", x.prime(11), FULL);
        C.due("drop the last place", x.drop(3), 3);
        C.due("now there is room", x.prime(11), 4);
        C.due("a fifth", x.prime(7), FULL);
        for (int n = 3; n >= 0; n--) {
            C.due("down to none", x.drop(0), n);
        }
        C.due("none to drop", x.drop(0), NONE);
        C.due("again", x.prime(31), 1);
    }

    /** Each has a BOX (0 .. 4; 2 when it comes). */
    private static void boxes() {
        for (int p : ALL_PRIMES) {
            SumsToOne x = Checks.of(p);
            C.due("2 when it comes", x.boxOf(0), 2);
            int before = 2;
            for (int b = -3; b <= 8; b++) {
                boolean isTaken = b >= 0 && b <= 4;
                C.due("box " + b, x.box(0, b), isTaken ? before : BAD);
                before = isTaken ? b : before;
                C.due("box is", x.boxOf(0), before);
            }
            x.drop(0);
            C.due("a box that went", x.boxOf(0), NONE);
            x.prime(p);
            C.due("2 when it comes again", x.boxOf(0), 2);
        }
    }

    /** POWER (-6 .. 6), in each SHELF and at each place. */
    private static void powers() {
        for (int shelf = 0; shelf < 4; shelf++) {
            for (int i = 0; i < 4; i++) {
                SumsToOne x = Checks.of(2, 3, 5, 7);
                int before = 0;
                for (int e = -9; e <= 9; e++) {
                    boolean isTaken = e >= -6 && e <= 6;
                    C.due("put " + e, x.put(shelf, i, e), isTaken ? before + 10 : BAD);
                    before = isTaken ? e : before;
                    C.due("power is", x.powerOf(shelf, i), before + 10);
                }
            }
        }
    }

    /** As a fraction it is told in lowest terms, the sign above the line. */
    private static void fractionsAreInLowestTerms() {
        for (int e = -6; e <= 6; e++) {
            for (int f = -6; f <= 6; f++) {
                SumsToOne x = Checks.of(2, 31);
                x.put(0, 0, e);
                x.put(0, 1, f);
                long above = power(2, e) * power(31, f);
                long below = power(2, -e) * power(31, -f);
                C.due("above", x.value(0, 0), above);
                C.due("below", x.value(0, 1), below);
                x.sign(0, -1);
                C.due("the sign above", x.value(0, 0), -above);
                C.due("no sign below", x.value(0, 1), below);
            }
        }
    }

    private static long power(int p, int e) {
        long product = 1;
        for (int n = 0; n < e; n++) {
            product *= p;
        }
        return product;
    }

    /** The primes that make most together, 986, each to the 6th and to the -6th. */
    private static void theGreatestFractions() {
        long most = 1;
        for (int n = 0; n < 6; n++) {
            most *= 986;
        }
        SumsToOne x = Checks.of(2, 17, 29);
        for (int i = 0; i < 3; i++) {
            x.put(0, i, 6);
            x.put(1, i, -6);
        }
        x.sign(0, -1);
        C.due("greatest above", x.value(0, 0), -most);
        C.due("1 below", x.value(0, 1), 1);
        C.due("1 above", x.value(1, 0), 1);
        C.due("greatest below", x.value(1, 1), most);
        C.due("no partner", x.partner(0, 2), NOT);
        C.due("no partner", x.partner(1, 2), NOT);
        C.due("their product", x.times(0, 1, 2), 1);
        C.due("is -1", x.value(2, 0), -1);
        C.due("by one another is beyond", x.over(0, 1, 2), OVER);
    }

    /** IN THE BOX it is, if no POWER, without its sign, is above the BOX of its PRIME. */
    private static void inTheBox() {
        for (int i = 0; i < 3; i++) {
            for (int b = 0; b <= 4; b++) {
                SumsToOne x = Checks.of(2, 3, 5);
                x.box(i, b);
                for (int e = -6; e <= 6; e++) {
                    x.put(1, i, e);
                    C.due("box " + b + ", power " + e, x.isIn(1), Math.abs(e) <= b ? 1 : 0);
                }
            }
        }
        C.due("without primes", new SumsToOne().isIn(0), 1);
        SumsToOne minus = new SumsToOne();
        minus.sign(0, -1);
        C.due("-1 without primes", minus.isIn(0), 1);
    }

    /** HEIGHT: the greatest POWER without its sign (0, if there are no PRIMES). */
    private static void heights() {
        C.due("without primes", new SumsToOne().height(3), 0);
        for (int e = -6; e <= 6; e++) {
            for (int f = -6; f <= 6; f++) {
                SumsToOne x = Checks.of(2, 3);
                x.put(0, 0, e);
                x.put(0, 1, f);
                C.due("height", x.height(0), Math.max(Math.abs(e), Math.abs(f)));
                x.drop(0);
                C.due("height of what stays", x.height(0), Math.abs(f));
                x.drop(0);
                C.due("height of nothing", x.height(0), 0);
            }
        }
    }

    /** With four PRIMES, as many as there may be: each place counts, and one that goes leaves nothing behind. */
    private static void allFourPlacesCount() {
        for (int i = 0; i < 4; i++) {
            SumsToOne x = Checks.of(2, 3, 5, 7);
            C.due("in the box", x.isIn(0), 1);
            C.due("1 does not pass", x.passes(0, 11), 0);
            x.put(0, i, 2);
            C.due("in the box", x.isIn(0), 1);
            x.put(0, i, 3);
            C.due("not in the box", x.isIn(0), 0);
            C.due("height", x.height(0), 3);
            int[] residues = {8, 27 % 11, 125 % 11, 343 % 11};
            C.due("passes, as all but 0 are reached", x.passes(0, 11), residues[i] == 1 ? 0 : 1);
            x.put(0, 3, -6);
            C.due("height", x.height(0), 6);
            for (int n = 3; n >= 0; n--) {
                x.drop(n);
                C.due("no height is left behind", x.height(0), i < n ? 3 : 0);
                C.due("nor anything that is over", x.times(0, 0, 1), 1);
            }
        }
    }

    /** OVER: a POWER would be beyond -6 .. 6. */
    private static void productsAtTheRange() {
        for (int e = -6; e <= 6; e++) {
            for (int f = -6; f <= 6; f++) {
                for (int i = 0; i < 2; i++) {
                    productOf(e, f, i);
                }
            }
        }
    }

    private static void productOf(int e, int f, int i) {
        SumsToOne x = Checks.of(3, 31);
        x.put(0, i, e);
        x.put(1, i, f);
        x.sign(1, -1);
        boolean isProduct = Math.abs(e + f) <= 6;
        C.due("times " + e + " " + f, x.times(0, 1, 2), isProduct ? 1 : OVER);
        C.due("its power", x.powerOf(2, i), isProduct ? e + f + 10 : 10);
        C.due("its sign", Long.signum(x.value(2, 0)), isProduct ? -1 : 1);
        boolean isQuotient = Math.abs(e - f) <= 6;
        C.due("over " + e + " " + f, x.over(0, 1, 3), isQuotient ? 1 : OVER);
        C.due("its power", x.powerOf(3, i), isQuotient ? e - f + 10 : 10);
        C.due("its sign", Long.signum(x.value(3, 0)), isQuotient ? -1 : 1);
    }

    /** PARTNER: 1 less x, if that is a UNIT: not 0, not beyond the range, of no other primes. */
    private static void partners() {
        partner("-1", 2, 1, 2);
        partner("1", NOT, 0, 2);
        partner("2", -1, 1, 2);
        partner("-2^6*3^2*7^-1", NOT, 0, 2, 3, 7);
        partner("-3^2*7", 64, 1, 2, 3, 7);
        partner("2^-6", 63, 64, 2, 3, 7);
        partner("-3*5^-3", NOT, 0, 2, 3, 5);
        partner("-2^3*7*13", 729, 1, 2, 3, 7, 13);
        partner("3^-6", 728, 729, 2, 3, 7, 13);
        partner("3^6", -728, 1, 2, 3, 7, 13);
        partner("2^5", -31, 1, 2, 31);
        partner("2^5", NOT, 0, 2, 29);
        SumsToOne minus = new SumsToOne();
        minus.sign(0, -1);
        C.due("2 is no unit without primes", minus.partner(0, 0), NOT);
    }

    private static void partner(String text, long above, long below, int... primes) {
        SumsToOne x = Checks.of(primes);
        C.due("read " + text, Checks.read(x, 3, text), 1);
        C.due("partner of " + text, x.partner(3, 0), above == NOT ? NOT : 1);
        C.due("above", x.value(0, 0), above == NOT ? 1 : above);
        C.due("below", x.value(0, 1), above == NOT ? 1 : below);
        C.due("forms of " + text, x.forms(3) == NOT ? 1 : 0, above == NOT ? 1 : 0);
    }

    /** A FORM with a POWER beyond -6 .. 6 is none: with 6 on either side each FORM is there, with 7 none is. */
    private static void formsAtTheRange() {
        long[] above = {-728, 729, -1, 1, 729, 728};
        long[] below = {1, 1, 728, 729, 728, 729};
        SumsToOne x = Checks.of(2, 3, 7, 13);
        Checks.read(x, 0, "-2^3*7*13");
        for (int k = 0; k < 6; k++) {
            C.due("form " + k, x.form(0, k, 1), 1);
            C.due("above", x.value(1, 0), above[k]);
            C.due("below", x.value(1, 1), below[k]);
        }
        SumsToOne y = Checks.of(2, 3, 5);
        Checks.read(y, 0, "-3*5^-3");
        for (int k = 0; k < 6; k++) {
            C.due("no form " + k, y.form(0, k, 1), NOT);
        }
    }

    /** Of each UNIT of three primes: a PAIR has all six FORMS, and they are what the document says; another one has none. */
    private static void formsOfAllPairs() {
        int pairs = 0;
        for (int n = 0; n < 13 * 13 * 13 * 2; n++) {
            SumsToOne x = Checks.of(2, 3, 7);
            x.put(0, 0, n % 13 - 6);
            x.put(0, 1, n / 13 % 13 - 6);
            x.put(0, 2, n / 169 % 13 - 6);
            x.sign(0, n / 2197 == 0 ? 1 : -1);
            if (x.partner(0, 1) == NOT) {
                C.due("no pair, no forms", x.forms(0), NOT);
                C.due("no pair, no form", x.form(0, n % 6, 2), NOT);
                continue;
            }
            pairs++;
            C.due("they make one", x.value(0, 0) * (x.value(1, 1) / x.value(0, 1)) + x.value(1, 0), x.value(1, 1));
            allForms(x);
        }
        C.holds("some pairs", pairs > 60);
    }

    /** SHELF 0 holds x, SHELF 1 its PARTNER. */
    private static void allForms(SumsToOne x) {
        TreeSet<String> unlike = new TreeSet<>();
        for (int k = 0; k < 6; k++) {
            C.due("form " + k, x.form(0, k, 2), 1);
            unlike.add(x.value(2, 0) + " by " + x.value(2, 1));
            C.due("form of a pair is a pair", x.forms(2), x.forms(0));
        }
        C.due("unlike ones", x.forms(0), unlike.size());
        form(x, 0, x.value(0, 0), x.value(0, 1));
        form(x, 1, x.value(1, 0), x.value(1, 1));
        form(x, 2, x.value(0, 1), x.value(0, 0));
        form(x, 3, x.value(1, 1), x.value(1, 0));
        form(x, 4, -x.value(1, 0), x.value(0, 0));
        form(x, 5, -x.value(0, 0), x.value(1, 0));
    }

    private static void form(SumsToOne x, int k, long above, long below) {
        x.form(0, k, 2);
        int turn = below < 0 ? -1 : 1;
        C.due("form " + k + " above", x.value(2, 0), turn * above);
        C.due("form " + k + " below", x.value(2, 1), turn * below);
    }

    /** No ANSWERS without primes, without 2, in boxes of 0; and the most there may be. */
    private static void answersOfNoneAndOfMost() {
        C.due("without primes", new SumsToOne().answers(), 0);
        C.due("no groups", new SumsToOne().groups(), 0);
        C.due("of odd primes", Checks.of(3, 5, 7).answers(), 0);
        SumsToOne x = Checks.of(2, 3, 5, 7);
        for (int i = 0; i < 4; i++) {
            x.box(i, 0);
        }
        C.due("boxes of 0", x.answers(), 0);
        C.due("and no groups", x.groups(), 0);
        x.box(0, 1);
        C.due("a box of 1", x.answers(), 3);
        C.due("a group of 3", x.group(0, 0), 3);
        for (int i = 0; i < 4; i++) {
            x.box(i, 4);
        }
        C.due("most", x.answers(), 261);
        C.due("most groups", x.groups(), 44);
        C.due("the last", x.answer(260, 1) > 0 ? 1 : 0, 1);
        C.due("no more", x.answer(261, 1), VOID);
        C.due("the last group", x.group(43, 0), 6);
        C.due("no more", x.group(44, 0), NONE);
    }

    /** ANSWERS by what is below the line, then by what is above (the sign counts), for each first two primes and all boxes. */
    private static void answersByWhatIsBelowThenAbove() {
        for (int boxes = 0; boxes < 125; boxes++) {
            SumsToOne x = Checks.of(2, 3, 5);
            x.box(0, boxes % 5);
            x.box(1, boxes / 5 % 5);
            x.box(2, boxes / 25);
            int all = x.answers();
            long below = 0;
            long above = 0;
            for (int i = 0; i < all; i++) {
                boolean isBehind = x.answer(i, 1) > below || x.answer(i, 1) == below && x.answer(i, 0) > above;
                C.holds("answer " + i + " is behind the one before", isBehind);
                below = x.answer(i, 1);
                above = x.answer(i, 0);
            }
            C.due("the last", x.take(all - 1, 0), all == 0 ? NONE : 1);
            C.due("behind the last", x.take(all, 0), NONE);
        }
        SumsToOne x = Checks.of(2);
        C.due("-1 is ahead of 2", x.answer(0, 0), -1);
        C.due("2 is ahead of a half", x.answer(1, 0), 2);
    }

    /** PAIRS x IN THE BOX whose PARTNERS are IN THE BOX, too. */
    private static void answersNeedBothInTheBox() {
        SumsToOne x = Checks.of(2, 3);
        Checks.read(x, 0, "3^2");
        Checks.read(x, 1, "-2^3");
        int[][] boxes = {{3, 2}, {2, 2}, {3, 1}, {4, 4}};
        boolean[] due = {true, false, false, true};
        for (int n = 0; n < boxes.length; n++) {
            x.box(0, boxes[n][0]);
            x.box(1, boxes[n][1]);
            C.holds("9 in boxes " + n, x.which(0) != NOT == due[n]);
            C.holds("-8 in boxes " + n, x.which(1) != NOT == due[n]);
        }
    }

    /** GROUPS are numbered from 0 by their first ANSWERS; ANSWERS are in one, if one is a FORM of the other one. */
    private static void groupsByTheirFirstAnswers() {
        for (int boxes = 0; boxes < 25; boxes++) {
            SumsToOne x = Checks.of(2, 3);
            x.box(0, boxes % 5);
            x.box(1, boxes / 5);
            int next = 0;
            int members = 0;
            for (int i = 0; i < x.answers(); i++) {
                int g = x.groupOf(i);
                C.holds("a group there was, or the next one", g >= 0 && g <= next);
                C.due("its first answer", g == next ? x.group(g, 1) : i, i);
                members += g == next ? x.group(g, 0) : 0;
                next = Math.max(next, g + 1);
            }
            C.due("groups", x.groups(), next);
            C.due("no more", x.group(next, 1), NONE);
            C.due("each answer is in one", members, x.answers());
        }
        SumsToOne x = Checks.of(2, 3);
        for (int i = 0; i < 15; i++) {
            x.take(i, 0);
            for (int k = 0; k < 6; k++) {
                x.form(0, k, 1);
                C.due("a form is in the same group", x.groupOf(x.which(1)), x.groupOf(i));
            }
        }
    }

    /** BOXES that were greater and PRIMES that were more leave nothing behind: all is as in a new object. */
    private static void answersOfBoxesThatGrewAndShrank() {
        for (int boxes = 0; boxes < 125; boxes++) {
            SumsToOne x = Checks.of(2, 3, 5, 7);
            for (int i = 0; i < 4; i++) {
                x.box(i, 4);
            }
            C.due("most", x.answers(), 261);
            x.drop(3);
            SumsToOne fresh = Checks.of(2, 3, 5);
            for (SumsToOne each : new SumsToOne[] {x, fresh}) {
                each.box(0, boxes % 5);
                each.box(1, boxes / 5 % 5);
                each.box(2, boxes / 25);
            }
            C.due("answers", x.answers(), fresh.answers());
            C.due("groups", x.groups(), fresh.groups());
            C.due("behind the last answer", x.answer(fresh.answers(), 0), VOID);
            C.due("behind the last group", x.group(fresh.groups(), 0), NONE);
            for (int g = 0; g < fresh.groups(); g++) {
                for (int what = 0; what < 3; what++) {
                    C.due("group " + g + ", " + what, x.group(g, what), fresh.group(g, what));
                }
            }
        }
    }

    /** SHELVES 0 .. 3 hold a UNIT each (1 at first). */
    private static void shelves() {
        for (int shelf = -2; shelf <= 6; shelf++) {
            boolean isThere = shelf >= 0 && shelf <= 3;
            SumsToOne x = Checks.of(2);
            C.due("value", x.value(shelf, 0), isThere ? 1 : VOID);
            C.due("value", x.value(shelf, 1), isThere ? 1 : VOID);
            C.due("height", x.height(shelf), isThere ? 0 : NONE);
            C.due("put", x.put(shelf, 0, -6), isThere ? 10 : NONE);
            C.due("sign", x.sign(shelf, -1), isThere ? 1 : NONE);
            for (int other = 0; other < 4; other++) {
                C.due("only that shelf", x.value(other, 0), other == shelf ? -1 : 1);
                C.due("only that shelf", x.value(other, 1), other == shelf ? 64 : 1);
            }
        }
    }

    /** A PRIME that comes has POWER 0 in all SHELVES; one that goes takes its POWERS with it. */
    private static void aPrimeThatComesAndGoes() {
        int[] four = {2, 3, 5, 7};
        for (int gone = 0; gone < 4; gone++) {
            SumsToOne x = Checks.of(four);
            for (int shelf = 0; shelf < 4; shelf++) {
                for (int i = 0; i < 4; i++) {
                    x.put(shelf, i, i + shelf - 3);
                }
            }
            C.due("goes", x.drop(gone), 3);
            for (int shelf = 0; shelf < 4; shelf++) {
                for (int i = 0; i < 3; i++) {
                    int was = i < gone ? i : i + 1;
                    C.due("the others' powers stay", x.powerOf(shelf, i), was + shelf - 3 + 10);
                }
            }
            C.due("comes again", x.prime(four[gone]), 4);
            for (int shelf = 0; shelf < 4; shelf++) {
                for (int i = 0; i < 4; i++) {
                    C.due("power 0 in all shelves", x.powerOf(shelf, i), i == gone ? 10 : i + shelf - 3 + 10);
                }
            }
        }
    }

    /** SIEVES: odd primes q of 3 .. 97 that are no PRIMES. */
    private static void sieveNumbers() {
        List<Integer> taken = new ArrayList<>();
        for (int q = -100; q <= 1000; q++) {
            SumsToOne x = Checks.of(2);
            int got = x.sieve(q);
            C.holds("sieve " + q + " is taken or BAD", got == 1 || got == BAD);
            C.due("reach is BAD alike", x.reach(q) == BAD ? 1 : 0, got == BAD ? 1 : 0);
            C.due("order is BAD alike", x.order(0, q) == BAD ? 1 : 0, got == BAD ? 1 : 0);
            C.due("passes is BAD alike", x.passes(0, q) == BAD ? 1 : 0, got == BAD ? 1 : 0);
            C.due("forget", x.forget(q), got == 1 ? 0 : NONE);
            if (got == 1) {
                taken.add(q);
            }
        }
        int n = 0;
        for (int q : ALL_SIEVES) {
            C.due("a sieve", n < taken.size() ? taken.get(n) : 0, q);
            n++;
        }
        C.due("no other ones", taken.size(), ALL_SIEVES.length);
        for (int p : ALL_PRIMES) {
            C.due("a prime is none", Checks.of(p).sieve(p), p == 2 ? BAD : STATE);
        }
    }

    /** 4 at most, in the order in which they were asked for last. */
    private static void sieveOrder() {
        SumsToOne x = new SumsToOne();
        List<Integer> due = new ArrayList<>();
        int z = 5;
        for (int n = 0; n < 60; n++) {
            z = z * 1103515245 + 12345;
            int q = ALL_SIEVES[(z >>> 16) % 6];
            due.remove(Integer.valueOf(q));
            due.add(q);
            if (due.size() > 4) {
                due.remove(0);
            }
            C.due("sieve", x.sieve(q), due.size());
            for (int i = 0; i < 5; i++) {
                C.due("its place", x.sieveOf(i), i < due.size() ? due.get(i) : NONE);
            }
        }
        for (int again = 0; again < 4; again++) {
            SumsToOne y = new SumsToOne();
            List<Integer> row = new ArrayList<>(List.of(3, 97, 5, 89));
            row.forEach(y::sieve);
            C.due("one of four again", y.sieve(row.get(again)), 4);
            row.add(row.remove(again));
            C.due("a fifth", y.sieve(7), 4);
            row.add(7);
            for (int i = 0; i < 4; i++) {
                C.due("the first went", y.sieveOf(i), row.get(i + 1));
            }
        }
    }

    /** One that becomes a PRIME goes, too, and does not come back when that goes. */
    private static void aSieveThatBecomesAPrime() {
        int[] row = {3, 31, 5, 29};
        for (int which = 0; which < 4; which++) {
            SumsToOne x = Checks.of(2);
            for (int q : row) {
                x.sieve(q);
            }
            C.due("it becomes a prime", x.prime(row[which]), 2);
            C.due("three are left", x.count(1), 3);
            for (int i = 0; i < 3; i++) {
                C.due("the others stay", x.sieveOf(i), row[i < which ? i : i + 1]);
            }
            C.due("no fourth", x.sieveOf(3), NONE);
            C.due("it is none", x.forget(row[which]), NONE);
            C.due("and cannot be", x.sieve(row[which]), STATE);
            x.drop(1);
            C.due("it does not come back", x.count(1), 3);
            C.due("but may be asked for", x.sieve(row[which]), 4);
        }
    }

    /** REACH and ORDER at the least and the greatest q, for each prime; ORDER is above 0 and divides q less 1. */
    private static void reachAndOrder() {
        for (int q : ALL_SIEVES) {
            C.due("1 and -1 alone", new SumsToOne().reach(q), 2);
            for (int p : ALL_PRIMES) {
                if (p == q) {
                    continue;
                }
                SumsToOne x = Checks.of(p);
                int order = x.order(0, q);
                int residue = 1;
                int least = 0;
                for (int k = 1; k <= q && least == 0; k++) {
                    residue = residue * p % q;
                    least = residue == 1 ? k : 0;
                }
                C.due("order of " + p + " by " + q, order, least);
                // -1 is a power of p just if the order is even.
                C.due("reach of " + p + " by " + q, x.reach(q), order % 2 == 0 ? order : 2 * order);
            }
        }
        C.due("order 1: 31 by 3", Checks.of(31).order(0, 3), 1);
        C.due("order 1: 31 by 5", Checks.of(31).order(0, 5), 1);
        C.due("order q less 1: 5 by 97", Checks.of(5).order(0, 97), 96);
        C.due("all are reached", Checks.of(5).reach(97), 96);
    }

    /** A UNIT PASSES q, if 1 less it is one of those numbers: 0 is none of them. */
    private static void passing() {
        for (int q : ALL_SIEVES) {
            SumsToOne none = new SumsToOne();
            C.due("1 never passes " + q, none.passes(0, q), 0);
            none.sign(0, -1);
            // 2 is 1 or -1 modulo 3 alone.
            C.due("-1 by " + q, none.passes(0, q), q == 3 ? 1 : 0);
        }
        SumsToOne x = Checks.of(2);
        for (int e = -6; e <= 6; e++) {
            x.put(0, 0, e);
            x.sign(0, 1);
            // Modulo 3 a power of 2 is 1 or -1; 1 less -1 is 2, which is reached.
            C.due("2^" + e + " by 3", x.passes(0, 3), e % 2 == 0 ? 0 : 1);
            x.sign(0, -1);
            C.due("-2^" + e + " by 3", x.passes(0, 3), e % 2 == 0 ? 1 : 0);
            // Modulo 5 all but 0 are reached: just 1 does not pass.
            x.sign(0, 1);
            C.due("2^" + e + " by 5", x.passes(0, 5), e % 4 == 0 ? 0 : 1);
            x.sign(0, -1);
            C.due("-2^" + e + " by 5", x.passes(0, 5), e % 4 == 2 || e % 4 == -2 ? 0 : 1);
        }
    }

    /** LEFT: all UNITS IN THE BOX without SIEVES; the fewest and the most. */
    private static void left() {
        C.due("1 and -1", new SumsToOne().left(), 2);
        for (int b = 0; b <= 4; b++) {
            SumsToOne x = Checks.of(2, 3, 5, 7);
            for (int i = 0; i < 4; i++) {
                x.box(i, b);
            }
            int side = 2 * b + 1;
            C.due("without sieves, boxes " + b, x.left(), 2 * side * side * side * side);
        }
        SumsToOne none = new SumsToOne();
        none.sieve(5);
        C.due("nothing is left", none.left(), 0);
        C.due("four sieves", none.sieve(7) + none.sieve(11) + none.sieve(13), 9);
        C.due("still nothing", none.left(), 0);
        countOfLeft(3, 97);
        countOfLeft(97, 89, 83, 79);
        countOfLeft(11, 13, 17, 19);
    }

    /** All SIEVES, not some: counted one by one with passes(). */
    private static void countOfLeft(int... sieves) {
        SumsToOne x = Checks.of(2, 5);
        x.box(1, 1);
        for (int q : sieves) {
            x.sieve(q);
        }
        int count = 0;
        for (int n = 0; n < 5 * 3 * 2; n++) {
            SumsToOne unit = Checks.of(2, 5);
            unit.put(0, 0, n % 5 - 2);
            unit.put(0, 1, n / 5 % 3 - 1);
            unit.sign(0, n / 15 == 0 ? 1 : -1);
            int passed = 0;
            for (int q : sieves) {
                passed += unit.passes(0, q);
            }
            count += passed == sieves.length ? 1 : 0;
        }
        C.due("left by " + sieves.length, x.left(), count);
    }

    /** LOTS: n times (1 .. 50). */
    private static void lotsAtTheirBounds() {
        SumsToOne x = Checks.of(2);
        x.box(0, 1);
        for (int n = -2; n <= 53; n++) {
            C.due("lots " + n, x.lots(n, 1), n >= 1 && n <= 50 ? hitsOfTwo(1, n, 1) : BAD);
        }
        SumsToOne none = new SumsToOne();
        C.due("without primes 1", none.lots(1, 0), 0);
        C.due("without primes 50", none.lots(50, 0), 0);
        for (int b = 0; b <= 4; b++) {
            x.box(0, b);
            for (int z = -3; z <= 3; z++) {
                C.due("lots in box " + b, x.lots(50, z), hitsOfTwo(b, 50, z));
            }
        }
    }

    /** The int that wraps: the first and the last seeds there are, and those by which the sign's bit comes and goes. */
    private static void lotsWrap() {
        SumsToOne x = Checks.of(2);
        int[] seeds = {0, 1, -1, MIN, MIN + 1, MAX, MAX - 1, 65535, 65536, -65536, 1 << 30, -(1 << 30), 1103515245, -1103515245, 12345, -12345};
        for (int z : seeds) {
            C.due("seed " + z, x.lots(50, z), hitsOfTwo(2, 50, z));
            C.due("one of seed " + z, x.lots(1, z), hitsOfTwo(2, 1, z));
        }
        for (int n = 0; n < 300; n++) {
            int z = n * 0x9E3779B9;
            C.due("one of seed " + z, x.lots(1, z), hitsOfTwo(2, 1, z));
        }
    }

    /** With longs, so that the wrapping is written out. */
    private static int hitsOfTwo(int box, int n, int seed) {
        long z = seed & 0xffffffffL;
        int hits = 0;
        for (int k = 0; k < n; k++) {
            z = (z * 1103515245L + 12345L) & 0xffffffffL;
            long power = (z & 0x7fffffffL) / 65536 % (2 * box + 1) - box;
            z = (z * 1103515245L + 12345L) & 0xffffffffL;
            boolean isBelow0 = (z & 0x7fffffffL) / 65536 % 2 == 1;
            boolean isAnswer = box > 0 && (isBelow0 ? power == 0 : power == 1 || power == -1);
            hits += isAnswer ? 1 : 0;
        }
        return hits;
    }

    /** THE TAPE holds 0 .. 60 bytes 32 .. 126. */
    private static void theTape() {
        for (int b = -2; b <= 300; b++) {
            SumsToOne x = new SumsToOne();
            C.due("byte " + b, x.feed(b), b >= 32 && b <= 126 ? 1 : BAD);
            C.due("wipe", x.wipe(), b >= 32 && b <= 126 ? 1 : 0);
        }
        SumsToOne x = new SumsToOne();
        C.due("empty at first", x.count(2), 0);
        C.due("wipe of none", x.wipe(), 0);
        for (int n = 1; n <= 62; n++) {
            C.due("byte no " + n, x.feed('1'), n <= 60 ? n : FULL);
            C.due("how many", x.count(2), Math.min(n, 60));
        }
        C.due("wipe of all", x.wipe(), 60);
        C.due("empty", x.count(2), 0);
        C.due("the first again", x.feed('1'), 1);
        C.due("what was wiped is gone", x.read(0), 1);
        C.due("empty behind read", x.count(2), 0);
        C.due("the first again", x.feed('-'), 1);
    }

    /** A full TAPE that is a TEXT, and one that ends too early. */
    private static void aTextOfSixtyBytes() {
        String sixty = "-" + "2^-1*2^1*".repeat(6) + "31^-6";
        C.due("its length", sixty.length(), 60);
        SumsToOne x = Checks.of(2, 31);
        C.due("60 bytes", Checks.read(x, 0, sixty), 1);
        C.due("above", x.value(0, 0), -1);
        C.due("below", x.value(0, 1), power(31, 6));
        StringBuilder twos = new StringBuilder("2^-6*2^-6*2^6*2^6*");
        while (twos.length() < 60) {
            twos.append("2*");
        }
        C.due("60 bytes that end too early", Checks.read(x, 1, twos.toString()), -160);
        C.due("59 bytes, wrong", Checks.read(x, 1, twos.substring(0, 59)), -9);
        C.due("a fault at the last place", Checks.read(x, 1, twos.substring(0, 59) + "x"), -159);
        C.due("60 bytes are cut there", Checks.read(x, 1, twos + "2^3"), -160);
    }

    /** One PRIME may come again (POWERS are added); beyond -6 .. 6 at last it is WRONG. */
    private static void powersThatAreAdded() {
        for (int e = -6; e <= 6; e++) {
            for (int f = -6; f <= 6; f++) {
                SumsToOne x = Checks.of(2, 13);
                boolean isUnit = Math.abs(e + f) <= 6;
                C.due("13^" + e + " and 13^" + f, Checks.read(x, 0, "13^" + e + "*2*13^" + f), isUnit ? 1 : -9);
                C.due("its power", x.powerOf(0, 1), isUnit ? e + f + 10 : 10);
                C.due("of 2", x.powerOf(0, 0), isUnit ? 11 : 10);
            }
        }
        SumsToOne x = Checks.of(2);
        C.due("six of them", Checks.read(x, 0, "2*2*2*2*2*2"), 1);
        C.due("64", x.value(0, 0), 64);
        C.due("seven of them", Checks.read(x, 0, "2*2*2*2*2*2*2"), -9);
        C.due("64 stays", x.value(0, 0), 64);
        C.due("beyond on the way alone", Checks.read(x, 0, "-2^6*2^6*2^6*2^-6*2^-6"), 1);
        C.due("-64", x.value(0, 0), -64);
    }

    /** SPELLED: the shortest, the longest, and that each is read as what it was. */
    private static void spelledAtItsBounds() {
        SumsToOne none = new SumsToOne();
        C.due("1", none.spelled(0, -1), 1);
        C.due("1", none.spelled(0, 0), '1');
        C.due("behind", none.spelled(0, 1), NONE);
        C.due("ahead", none.spelled(0, -2), NONE);
        SumsToOne x = Checks.of(2, 3, 5, 31);
        Checks.read(x, 0, "-2^-6*3^-6*5^-6*31^-6");
        C.due("longest of 930", x.spelled(0, -1), 21);
        SumsToOne y = Checks.of(2, 17, 29);
        Checks.read(y, 0, "-2^-6*17^-6*29^-6");
        C.holds("of 986", Checks.spelled(y, 0).equals("-2^-6*17^-6*29^-6"));
        for (int n = 0; n < 13 * 13 * 2; n++) {
            SumsToOne z = Checks.of(3, 11);
            z.put(0, 0, n % 13 - 6);
            z.put(0, 1, n / 13 % 13 - 6);
            z.sign(0, n / 169 == 0 ? 1 : -1);
            String text = Checks.spelled(z, 0);
            C.holds("spelled " + text, text.equals(spelling(z.powerOf(0, 0) - 10, z.powerOf(0, 1) - 10, n / 169 == 1)));
            C.due("is read", Checks.read(z, 1, text), 1);
            C.due("as it was", z.value(1, 0), z.value(0, 0));
            C.due("as it was", z.value(1, 1), z.value(0, 1));
        }
    }

    private static String spelling(int ofThree, int ofEleven, boolean isBelow0) {
        String three = ofThree == 0 ? "" : ofThree == 1 ? "3" : "3^" + ofThree;
        String eleven = ofEleven == 0 ? "" : ofEleven == 1 ? "11" : "11^" + ofEleven;
        String both = three + (three.isEmpty() || eleven.isEmpty() ? "" : "*") + eleven;
        return (isBelow0 ? "-" : "") + (both.isEmpty() ? "1" : both);
    }

    /** LISTS 0 .. 2 are missing (at first), or hold 0 .. 20 longs. */
    private static void lists() {
        for (int list = -2; list <= 4; list++) {
            boolean isThere = list >= 0 && list <= 2;
            SumsToOne x = new SumsToOne();
            C.due("missing at first", x.lay(list, 0, 1), isThere ? MISSING : NONE);
            for (int n = -4; n <= 24; n++) {
                int due = !isThere ? NONE : n > 20 ? BAD : n < -1 ? BELOW : 1;
                C.due("list of " + n, x.list(list, n), due);
                C.due("is it there", x.count(3), isThere && n >= 0 ? 1 : 0);
            }
        }
        for (int n = -1; n <= 20; n++) {
            SumsToOne x = new SumsToOne();
            x.list(1, 20);
            for (int i = 0; i < 20; i++) {
                x.lay(1, i, i + 1);
            }
            x.list(1, n);
            for (int i = -1; i <= 20; i++) {
                boolean isPlace = i >= 0 && i < n;
                C.due("all 0", x.get(1, i), isPlace ? 0 : VOID);
                C.due("lay", x.lay(1, i, VOID + 1 + i), isPlace ? 1 : n < 0 ? MISSING : PLACE);
                C.due("laid", x.get(1, i), isPlace ? VOID + 1 + i : VOID);
            }
        }
    }

    /** ANSWERS i, i and 1, .. (10 at most, as many as there are), whatever the LIST was. */
    private static void films() {
        for (int i = -1; i <= 16; i++) {
            for (int before = -1; before <= 20; before += 7) {
                SumsToOne x = Checks.of(2, 3);
                x.list(2, before);
                boolean isAnswer = i >= 0 && i < 15;
                int filmed = Math.min(10, 15 - i);
                C.due("film from " + i, x.film(2, i), isAnswer ? filmed : NONE);
                C.due("is it there", x.count(3), isAnswer || before >= 0 ? 1 : 0);
                for (int place = 0; isAnswer && place <= 20; place++) {
                    C.due("place " + place, x.get(2, place), place < 2 * filmed ? x.answer(i + place / 2, place % 2) : VOID);
                }
                C.due("judged", isAnswer ? x.judge(2, i) : 0, isAnswer ? 100 + 2 * filmed : 0);
            }
        }
    }

    /** The first place that is otherwise (that is beyond all ANSWERS, too); 100 and its size, if all are so. */
    private static void judged() {
        SumsToOne x = Checks.of(2, 3);
        for (int size = 0; size <= 20; size++) {
            SumsToOne y = Checks.of(2, 3);
            y.list(0, size);
            for (int place = 0; place < size; place++) {
                y.lay(0, place, x.answer(5 + place / 2, place % 2));
            }
            C.due("all " + size + " are so", y.judge(0, 5), 100 + size);
            C.due("beyond all answers", y.judge(0, 15), size == 0 ? 100 : 0);
            C.due("far beyond", y.judge(0, MAX), size == 0 ? 100 : 0);
            for (int place = size - 1; place >= 0; place--) {
                y.lay(0, place, VOID);
                C.due("the first that is otherwise", y.judge(0, 5), place);
            }
        }
        for (int size = 2; size <= 20; size++) {
            SumsToOne y = Checks.of(2, 3);
            y.film(0, 14);
            long above = y.get(0, 0);
            long below = y.get(0, 1);
            y.list(0, size);
            y.lay(0, 0, above);
            y.lay(0, 1, below);
            for (int place = 2; place < size; place++) {
                y.lay(0, place, place % 2 == 0 ? VOID : 0);
            }
            C.due("what goes on beyond all answers", y.judge(0, 14), size == 2 ? 102 : 2);
        }
        SumsToOne none = new SumsToOne();
        none.list(0, 1);
        C.due("no answers at all", none.judge(0, 0), 0);
        none.list(0, 0);
        C.due("nothing is told", none.judge(0, 0), 100);
    }

    /** THE IMAGE: PRIMES, BOXES, SHELVES, SIEVES (not LISTS, THE TAPE). */
    private static void theImage() {
        SumsToOne x = Watch.full();
        SumsToOne same = Watch.full();
        C.due("image", x.image(), 4);
        C.due("image", same.image(), 4);
        for (int n = 3; n >= 0; n--) {
            C.due("drop", x.drop(0), n);
        }
        for (int q : new int[] {97, 11, 89, 13}) {
            x.forget(q);
        }
        x.sign(0, 1);
        C.due("none are left", x.count(0) + x.count(1), 0);
        C.due("undo", x.undo(), 4);
        C.holds("all is as it was", Watch.seen(x).equals(Watch.seen(same)));
        SumsToOne y = Watch.rich();
        y.image();
        y.list(0, -1);
        y.list(1, 4);
        y.lay(1, 3, 9);
        y.wipe();
        Checks.feed(y, "-31");
        y.undo();
        C.due("lists are not in it", y.get(0, 0), VOID);
        C.due("lists are not in it", y.get(1, 3), 9);
        C.due("the tape is not in it", y.count(2), 3);
        C.due("it is read", y.read(0), 1);
        C.due("as it was fed", y.value(0, 0), -31);
        C.due("undo again", y.undo(), 3);
        C.due("to the same image", y.value(0, 0), -8);
    }

    /** An image of no PRIMES is one, too. */
    private static void theImageOfNothing() {
        SumsToOne x = new SumsToOne();
        C.due("there is none", x.undo(), STATE);
        C.due("image", x.image(), 0);
        C.due("undo", x.undo(), 0);
        x.prime(2);
        x.sign(1, -1);
        x.sieve(3);
        C.due("undo to nothing", x.undo(), 0);
        C.due("no primes", x.count(0), 0);
        C.due("no sieves", x.count(1), 0);
        C.due("1", x.value(1, 0), 1);
        C.due("no answers", x.answers(), 0);
        C.due("left", x.left(), 2);
    }

    /** count: the empty and the full. */
    private static void countsOfNoneAndOfAll() {
        SumsToOne none = new SumsToOne();
        int[] most = {4, 4, 60, 3, 0};
        SumsToOne full = Watch.full();
        for (int what = -2; what <= 7; what++) {
            boolean isAsked = what >= 0 && what <= 4;
            C.due("of none " + what, none.count(what), isAsked ? 0 : NONE);
            C.due("of all " + what, full.count(what), isAsked ? most[what] : NONE);
        }
        SumsToOne x = Checks.of(2);
        for (int shelf = 0; shelf < 4; shelf++) {
            x.sign(shelf, -1);
            C.due("pairs", x.count(4), shelf + 1);
        }
        x.drop(0);
        C.due("no pairs without 2", x.count(4), 0);
    }
}
