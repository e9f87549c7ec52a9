/** Each promise of the document by its number: ordinary inputs, the edges it names, wrong inputs. */
public final class PromisesTest {
    private static final Checks C = new Checks("promises");
    private static final int NONE = -1, BAD = -2, STATE = -3, FULL = -4, NOT = -5, OVER = -6, WRONG = -9, MISSING = -11, PLACE = -13, BELOW = -14;
    private static final long VOID = Long.MIN_VALUE;
    private static final int MIN = Integer.MIN_VALUE, MAX = Integer.MAX_VALUE;
    private static final int[] NO_SHELF = {-1, 4, MIN, MAX};

    public static void main(String[] args) {
        primes();
        units();
        pairs();
        answers();
        groups();
        sieves();
        texts();
        lists();
        image();
        C.end();
    }

    private static void primes() {
        promise1NewObject();
        promise2Prime();
        promise2PrimeMovesPowers();
        promise3Drop();
        promise4PrimeOf();
        promise5Box();
        promise6BoxOf();
    }

    private static void units() {
        promise7Put();
        promise8Sign();
        promise9PowerOf();
        promise10Value();
        promise11Height();
        promise12IsIn();
        promise13Times();
        promise14Over();
    }

    private static void pairs() {
        promise15Partner();
        promise16Form();
        promise17Forms();
    }

    private static void answers() {
        promise18Answers();
        promise19Answer();
        promise20Take();
        promise21Which();
        promise25Lots();
    }

    private static void groups() {
        promise22Groups();
        promise23GroupOf();
        promise24Group();
    }

    private static void sieves() {
        promise26Sieve();
        promise27SieveOf();
        promise28Forget();
        promise29Order();
        promise30Reach();
        promise31Passes();
        promise32Left();
    }

    private static void texts() {
        promise33Feed();
        promise34Wipe();
        promise35ReadTexts();
        promise35ReadFaults();
        promise35ReadWrong();
        promise36Spelled();
    }

    private static void lists() {
        promise37List();
        promise38Lay();
        promise39Get();
        promise40Film();
        promise41Judge();
    }

    private static void image() {
        promise42Image();
        promise43Undo();
        promise44Count();
    }

    private static void promise1NewObject() {
        SumsToOne x = new SumsToOne();
        C.due("1 count(0)", x.count(0), 0);
        C.due("1 count(1)", x.count(1), 0);
        C.due("1 count(2)", x.count(2), 0);
        C.due("1 count(3)", x.count(3), 0);
        for (int shelf = 0; shelf < 4; shelf++) {
            C.due("1 value above", x.value(shelf, 0), 1);
            C.due("1 value below", x.value(shelf, 1), 1);
        }
        C.due("1 undo", x.undo(), STATE);
    }

    private static void promise2Prime() {
        int[] all = {2, 3, 5, 7, 11, 13, 17, 19, 23, 29, 31};
        for (int p : all) {
            C.due("2 prime alone " + p, new SumsToOne().prime(p), 1);
        }
        for (int p : new int[] {MIN, -3, -2, -1, 0, 1, 4, 6, 8, 9, 10, 12, 14, 15, 21, 25, 27, 30, 32, 37, MAX}) {
            C.due("2 prime BAD " + p, Checks.of(2, 3, 5, 7).prime(p), BAD);
        }
        SumsToOne x = new SumsToOne();
        C.due("2 first", x.prime(7), 1);
        C.due("2 second", x.prime(2), 2);
        C.due("2 third", x.prime(5), 3);
        C.due("2 again", x.prime(5), STATE);
        C.due("2 above 1000", x.prime(17), FULL);
        C.due("2 below 1000", x.prime(13), 4);
        C.due("2 again before full", x.prime(13), STATE);
        C.due("2 four are there", x.prime(3), FULL);
        C.due("2 rising 0", x.primeOf(0), 2);
        C.due("2 rising 1", x.primeOf(1), 5);
        C.due("2 rising 2", x.primeOf(2), 7);
        C.due("2 rising 3", x.primeOf(3), 13);
        C.due("2 966", Checks.of(2, 3, 7).prime(23), 4);
        C.due("2 1001", Checks.of(7, 11).prime(13), FULL);
        C.due("2 29 31", Checks.of(29).prime(31), 2);
        C.due("2 899 times 2", Checks.of(29, 31).prime(2), FULL);
        SumsToOne four = Checks.of(2, 3, 5, 7);
        C.due("2 210 times 2 is there", four.prime(2), STATE);
        C.due("2 FULL changes nothing", four.prime(11), FULL);
        C.due("2 still four", four.count(0), 4);
    }

    private static void promise2PrimeMovesPowers() {
        SumsToOne x = Checks.of(3, 7);
        x.put(0, 0, 2);
        x.put(0, 1, -3);
        x.box(0, 1);
        x.box(1, 4);
        x.prime(5);
        C.due("2 power of 3", x.powerOf(0, 0), 12);
        C.due("2 power of the new one", x.powerOf(0, 1), 10);
        C.due("2 power of 7", x.powerOf(0, 2), 7);
        C.due("2 box of 3", x.boxOf(0), 1);
        C.due("2 box of the new one", x.boxOf(1), 2);
        C.due("2 box of 7", x.boxOf(2), 4);
        x.put(3, 2, 6);
        x.prime(2);
        C.due("2 a new first one", x.powerOf(0, 0), 10);
        C.due("2 the first goes on", x.powerOf(0, 1), 12);
        C.due("2 the last goes on", x.powerOf(0, 3), 7);
        C.due("2 the last goes on", x.powerOf(3, 3), 16);
        x.put(0, 0, 1);
        x.drop(0);
        C.due("3 the first goes", x.value(0, 0), 9);
        C.due("3 the last comes nearer", x.powerOf(3, 2), 16);
        C.due("3 the last comes nearer", x.value(0, 1), 343);
        x.sieve(11);
        x.sieve(2);
        C.due("2 a sieve", x.count(1), 1);
        x.drop(2);
        x.prime(11);
        C.due("2 that sieve goes", x.count(1), 0);
        SumsToOne y = Checks.of(2, 3, 5, 7);
        y.sieve(11);
        y.prime(11);
        C.due("2 FULL keeps the sieve", y.sieveOf(0), 11);
    }

    private static void promise3Drop() {
        SumsToOne x = Checks.of(2, 3, 5);
        x.put(2, 0, 1);
        x.put(2, 1, 2);
        x.put(2, 2, 3);
        x.box(2, 4);
        for (int i : new int[] {-1, 3, 4, MIN, MAX}) {
            C.due("3 drop NONE", x.drop(i), NONE);
        }
        C.due("3 drop", x.drop(1), 2);
        C.due("3 value", x.value(2, 0), 250);
        C.due("3 prime 1", x.primeOf(1), 5);
        C.due("3 its box", x.boxOf(1), 4);
        C.due("3 no place 2", x.drop(2), NONE);
        C.due("3 comes again", x.prime(3), 3);
        C.due("3 with power 0", x.powerOf(2, 1), 10);
        C.due("3 with box 2", x.boxOf(1), 2);
        C.due("3 drop last", x.drop(2), 2);
        C.due("3 drop first", x.drop(0), 1);
        C.due("3 drop all", x.drop(0), 0);
        C.due("3 nothing left", x.drop(0), NONE);
        C.due("3 value is 1", x.value(2, 0), 1);
        SumsToOne y = Checks.of(2, 3, 5, 7);
        y.put(0, 3, 5);
        y.drop(3);
        y.prime(7);
        C.due("3 the last power goes too", y.powerOf(0, 3), 10);
    }

    private static void promise4PrimeOf() {
        SumsToOne x = Checks.of(31, 2, 13);
        C.due("4 0", x.primeOf(0), 2);
        C.due("4 1", x.primeOf(1), 13);
        C.due("4 2", x.primeOf(2), 31);
        for (int i : new int[] {-1, 3, 4, MIN, MAX}) {
            C.due("4 NONE", x.primeOf(i), NONE);
        }
        C.due("4 none at first", new SumsToOne().primeOf(0), NONE);
    }

    private static void promise5Box() {
        SumsToOne x = Checks.of(2, 3);
        C.due("5 was 2", x.box(0, 0), 2);
        C.due("5 was 0", x.box(0, 4), 0);
        C.due("5 other", x.box(1, 3), 2);
        C.due("5 BAD 5", x.box(0, 5), BAD);
        C.due("5 BAD -1", x.box(0, -1), BAD);
        C.due("5 BAD min", x.box(0, MIN), BAD);
        C.due("5 NONE ahead of BAD", x.box(2, 5), NONE);
        C.due("5 NONE", x.box(-1, 1), NONE);
        C.due("5 stays", x.boxOf(0), 4);
        C.due("5 stays", x.boxOf(1), 3);
    }

    private static void promise6BoxOf() {
        SumsToOne x = Checks.of(2, 3);
        C.due("6 at first", x.boxOf(1), 2);
        x.box(1, 1);
        C.due("6 1", x.boxOf(1), 1);
        C.due("6 0", x.boxOf(0), 2);
        for (int i : new int[] {-1, 2, MIN, MAX}) {
            C.due("6 NONE", x.boxOf(i), NONE);
        }
    }

    private static void promise7Put() {
        SumsToOne x = Checks.of(2, 3);
        C.due("7 first", x.put(0, 0, 6), 10);
        C.due("7 again", x.put(0, 0, -6), 16);
        C.due("7 again", x.put(0, 0, 1), 4);
        C.due("7 BAD 7", x.put(0, 0, 7), BAD);
        C.due("7 BAD -7", x.put(0, 0, -7), BAD);
        C.due("7 NONE ahead of BAD", x.put(0, 2, 7), NONE);
        C.due("7 NONE i", x.put(0, -1, 0), NONE);
        for (int shelf : NO_SHELF) {
            C.due("7 NONE shelf", x.put(shelf, 0, 0), NONE);
        }
        C.due("7 stays", x.powerOf(0, 0), 11);
        C.due("7 other shelf", x.powerOf(1, 0), 10);
        C.due("7 other prime", x.powerOf(0, 1), 10);
    }

    private static void promise8Sign() {
        SumsToOne x = Checks.of(2);
        C.due("8 -1", x.sign(3, -1), 1);
        C.due("8 value", x.value(3, 0), -1);
        C.due("8 below stays", x.value(3, 1), 1);
        C.due("8 BAD", x.sign(3, 0), BAD);
        C.due("8 BAD 2", x.sign(3, 2), BAD);
        C.due("8 BAD -2", x.sign(3, -2), BAD);
        C.due("8 stays", x.value(3, 0), -1);
        C.due("8 again", x.sign(3, -1), 1);
        C.due("8 becomes, not turns", x.value(3, 0), -1);
        C.due("8 1", x.sign(3, 1), 1);
        C.due("8 value", x.value(3, 0), 1);
        for (int shelf : NO_SHELF) {
            C.due("8 NONE ahead of BAD", x.sign(shelf, 0), NONE);
        }
    }

    private static void promise9PowerOf() {
        SumsToOne x = Checks.of(2, 5);
        x.put(1, 1, -6);
        x.put(1, 0, 6);
        C.due("9 -6", x.powerOf(1, 1), 4);
        C.due("9 6", x.powerOf(1, 0), 16);
        C.due("9 0", x.powerOf(0, 0), 10);
        C.due("9 NONE i", x.powerOf(1, 2), NONE);
        C.due("9 NONE i", x.powerOf(1, -1), NONE);
        for (int shelf : NO_SHELF) {
            C.due("9 NONE", x.powerOf(shelf, 0), NONE);
        }
    }

    private static void promise10Value() {
        SumsToOne x = Checks.of(2, 3, 7, 23);
        for (int i = 0; i < 4; i++) {
            x.put(0, i, 6);
            x.put(1, i, -6);
        }
        long greatest = 966L * 966 * 966 * 966 * 966 * 966;
        x.sign(0, -1);
        x.sign(1, -1);
        C.due("10 above", x.value(0, 0), -greatest);
        C.due("10 below", x.value(0, 1), 1);
        C.due("10 the sign is above", x.value(1, 0), -1);
        C.due("10 below", x.value(1, 1), greatest);
        x.put(2, 0, -2);
        x.put(2, 1, 1);
        C.due("10 3", x.value(2, 0), 3);
        C.due("10 by 4", x.value(2, 1), 4);
        C.due("10 part", x.value(2, 2), VOID);
        C.due("10 part", x.value(2, -1), VOID);
        for (int shelf : NO_SHELF) {
            C.due("10 shelf", x.value(shelf, 0), VOID);
        }
    }

    private static void promise11Height() {
        SumsToOne x = new SumsToOne();
        C.due("11 no primes", x.height(0), 0);
        x.prime(2);
        x.prime(3);
        C.due("11 one", x.height(0), 0);
        x.put(0, 0, 2);
        x.put(0, 1, -5);
        C.due("11 without its sign", x.height(0), 5);
        x.put(0, 0, 6);
        C.due("11 6", x.height(0), 6);
        C.due("11 other shelf", x.height(1), 0);
        for (int shelf : NO_SHELF) {
            C.due("11 NONE", x.height(shelf), NONE);
        }
    }

    private static void promise12IsIn() {
        SumsToOne x = Checks.of(2, 3);
        C.due("12 one", x.isIn(0), 1);
        x.put(0, 0, -2);
        x.put(0, 1, 2);
        C.due("12 at the edge", x.isIn(0), 1);
        x.put(0, 0, -3);
        C.due("12 beyond below", x.isIn(0), 0);
        x.box(0, 3);
        C.due("12 box grew", x.isIn(0), 1);
        x.box(1, 1);
        C.due("12 beyond above", x.isIn(0), 0);
        x.box(0, 0);
        x.box(1, 0);
        x.sign(1, -1);
        C.due("12 -1 in box 0", x.isIn(1), 1);
        for (int shelf : NO_SHELF) {
            C.due("12 NONE", x.isIn(shelf), NONE);
        }
    }

    private static void promise13Times() {
        SumsToOne x = Checks.of(2, 3);
        Checks.read(x, 0, "-2^3*3^-1");
        Checks.read(x, 1, "-2^-1*3^-5");
        C.due("13 times", x.times(0, 1, 2), 1);
        C.due("13 above", x.value(2, 0), 4);
        C.due("13 below", x.value(2, 1), 729);
        C.due("13 square", x.times(0, 0, 0), 1);
        C.due("13 above", x.value(0, 0), 64);
        C.due("13 below", x.value(0, 1), 9);
        C.due("13 7 is OVER", x.times(0, 1, 3), OVER);
        x.put(3, 0, 1);
        C.due("13 7 above is OVER", x.times(0, 3, 0), OVER);
        C.due("13 OVER changes nothing", x.value(0, 0), 64);
        for (int shelf : NO_SHELF) {
            C.due("13 NONE", x.times(shelf, 0, 0), NONE);
            C.due("13 NONE", x.times(0, shelf, 0), NONE);
            C.due("13 NONE ahead of OVER", x.times(0, 3, shelf), NONE);
        }
    }

    private static void promise14Over() {
        SumsToOne x = Checks.of(2, 3);
        Checks.read(x, 0, "-2^3*3^-1");
        Checks.read(x, 1, "2^-3*3^-6");
        C.due("14 over", x.over(0, 1, 2), 1);
        C.due("14 above", x.value(2, 0), -64L * 243);
        C.due("14 below", x.value(2, 1), 1);
        C.due("14 turned", x.over(1, 0, 1), 1);
        C.due("14 above", x.value(1, 0), -1);
        C.due("14 below", x.value(1, 1), 64L * 243);
        C.due("14 OVER", x.over(1, 0, 1), OVER);
        C.due("14 changes nothing", x.value(1, 1), 64L * 243);
        C.due("14 itself", x.over(0, 0, 0), 1);
        C.due("14 one", x.value(0, 0), 1);
        for (int shelf : NO_SHELF) {
            C.due("14 NONE", x.over(shelf, 0, 0), NONE);
            C.due("14 NONE", x.over(0, shelf, 0), NONE);
            C.due("14 NONE", x.over(0, 0, shelf), NONE);
        }
    }

    private static void promise15Partner() {
        SumsToOne x = Checks.of(2, 3);
        Checks.read(x, 0, "-2^3");
        C.due("15 partner of -8", x.partner(0, 1), 1);
        C.due("15 is 9", x.value(1, 0), 9);
        C.due("15 back", x.partner(1, 1), 1);
        C.due("15 is -8", x.value(1, 0), -8);
        C.due("15 1 has none", x.partner(2, 3), NOT);
        Checks.read(x, 2, "2^4");
        C.due("15 -15 is no unit", x.partner(2, 3), NOT);
        C.due("15 NOT changes nothing", x.value(3, 0), 1);
        x.drop(1);
        x.prime(31);
        Checks.read(x, 2, "2^-5");
        C.due("15 31 by 32", x.partner(2, 3), 1);
        C.due("15 above", x.value(3, 0), 31);
        C.due("15 below", x.value(3, 1), 32);
        for (int shelf : NO_SHELF) {
            C.due("15 NONE", x.partner(shelf, 0), NONE);
            C.due("15 NONE ahead of NOT", x.partner(1, shelf), NONE);
        }
        SumsToOne y = Checks.of(2, 3, 5, 17);
        Checks.read(y, 0, "-3*5*17");
        C.due("15 256 has power 8", y.partner(0, 1), NOT);
        Checks.read(y, 0, "-3*5^-3");
        C.due("15 128 by 125 has power 7", y.partner(0, 1), NOT);
        C.due("15 so it is no pair", y.forms(0), NOT);
        C.due("15 so it has no forms", y.form(0, 2, 1), NOT);
        Checks.read(y, 0, "2^6*3^-4");
        C.due("15 17 by 81", y.partner(0, 1), 1);
        C.due("15 above", y.value(1, 0), 17);
        Checks.read(y, 0, "-17*3^-4*2^-6");
        C.due("15 17 and 5184", y.partner(0, 1), NOT);
        Checks.read(y, 0, "-17*3^-1*5^-1");
        C.due("15 32 by 15", y.partner(0, 1), 1);
        C.due("15 above", y.value(1, 0), 32);
        C.due("15 below", y.value(1, 1), 15);
        Checks.read(y, 0, "-2^4*3*5");
        C.due("15 241", y.partner(0, 1), NOT);
        SumsToOne z = Checks.of(3, 5, 7);
        z.sign(0, -1);
        C.due("15 no 2", z.partner(0, 1), NOT);
        SumsToOne none = new SumsToOne();
        C.due("15 no primes", none.partner(0, 0), NOT);
    }

    private static void promise16Form() {
        SumsToOne x = Checks.of(2, 3);
        Checks.read(x, 0, "-2^3");
        long[] above = {-8, 9, -1, 1, 9, 8};
        long[] below = {1, 1, 8, 9, 8, 9};
        for (int k = 0; k < 6; k++) {
            C.due("16 form " + k, x.form(0, k, 1), 1);
            C.due("16 above " + k, x.value(1, 0), above[k]);
            C.due("16 below " + k, x.value(1, 1), below[k]);
        }
        C.due("16 upon itself", x.form(0, 5, 0), 1);
        C.due("16 above", x.value(0, 0), 8);
        C.due("16 no pair", x.form(2, 0, 1), NOT);
        C.due("16 changes nothing", x.value(1, 0), 8);
        for (int k : new int[] {-1, 6, MIN, MAX}) {
            C.due("16 NONE k ahead of NOT", x.form(2, k, 1), NONE);
        }
        for (int shelf : NO_SHELF) {
            C.due("16 NONE shelf", x.form(shelf, 0, 1), NONE);
            C.due("16 NONE to", x.form(0, 0, shelf), NONE);
        }
    }

    private static void promise17Forms() {
        SumsToOne x = Checks.of(2, 3);
        for (String text : new String[] {"-1", "2", "2^-1"}) {
            Checks.read(x, 0, text);
            C.due("17 three " + text, x.forms(0), 3);
        }
        for (String text : new String[] {"3", "2^2", "2^-2", "-2^3", "3^2", "2*3^-1"}) {
            Checks.read(x, 0, text);
            C.due("17 six " + text, x.forms(0), 6);
        }
        C.due("17 no pair", x.forms(1), NOT);
        for (int shelf : NO_SHELF) {
            C.due("17 NONE", x.forms(shelf), NONE);
        }
    }

    private static void promise18Answers() {
        C.due("18 none", new SumsToOne().answers(), 0);
        C.due("18 2", Checks.of(2).answers(), 3);
        C.due("18 odd ones", Checks.of(3, 5, 7).answers(), 0);
        SumsToOne x = Checks.of(2, 3);
        C.due("18 2 3", x.answers(), 15);
        x.box(0, 3);
        C.due("18 box 3", x.answers(), 21);
        x.box(1, 1);
        C.due("18 box 1", x.answers(), 15);
        x.box(1, 0);
        C.due("18 box 0", x.answers(), 3);
        x.drop(0);
        C.due("18 dropped", x.answers(), 0);
        SumsToOne most = Checks.of(2, 3, 5, 7);
        for (int i = 0; i < 4; i++) {
            most.box(i, 4);
        }
        C.due("18 most", most.answers(), 261);
        C.due("18 most groups", most.groups(), 44);
    }

    private static void promise19Answer() {
        SumsToOne x = Checks.of(2);
        long[] above = {-1, 2, 1};
        long[] below = {1, 1, 2};
        for (int i = 0; i < 3; i++) {
            C.due("19 above", x.answer(i, 0), above[i]);
            C.due("19 below", x.answer(i, 1), below[i]);
        }
        for (int i : new int[] {-1, 3, MIN, MAX}) {
            C.due("19 VOID i", x.answer(i, 0), VOID);
        }
        C.due("19 VOID part", x.answer(0, 2), VOID);
        C.due("19 VOID part", x.answer(0, -1), VOID);
        x.prime(3);
        C.due("19 another first", x.answer(0, 0), -3);
        x.box(0, 3);
        C.due("19 another first", x.answer(0, 0), -8);
    }

    private static void promise20Take() {
        SumsToOne x = Checks.of(2, 3);
        C.due("20 take", x.take(14, 2), 1);
        C.due("20 above", x.value(2, 0), 3);
        C.due("20 below", x.value(2, 1), 4);
        C.due("20 first", x.take(0, 2), 1);
        C.due("20 above", x.value(2, 0), -3);
        C.due("20 NONE", x.take(15, 2), NONE);
        C.due("20 NONE", x.take(-1, 2), NONE);
        C.due("20 stays", x.value(2, 0), -3);
        for (int shelf : NO_SHELF) {
            C.due("20 NONE shelf", x.take(0, shelf), NONE);
        }
    }

    private static void promise21Which() {
        SumsToOne x = Checks.of(2, 3);
        for (int i = 0; i < 15; i++) {
            x.take(i, 0);
            C.due("21 which", x.which(0), i);
        }
        C.due("21 one is none", x.which(1), NOT);
        Checks.read(x, 1, "-2^3");
        C.due("21 a pair beyond the box", x.which(1), NOT);
        x.box(0, 3);
        C.due("21 the box grew", x.which(1), 0);
        for (int shelf : NO_SHELF) {
            C.due("21 NONE", x.which(shelf), NONE);
        }
        SumsToOne y = Checks.of(2, 3);
        Checks.read(y, 0, "3^2");
        y.box(0, 3);
        C.due("21 in", y.which(0) >= 0 ? 1 : 0, 1);
        y.box(0, 2);
        C.due("21 the partner is beyond", y.which(0), NOT);
    }

    private static void promise22Groups() {
        C.due("22 none", new SumsToOne().groups(), 0);
        C.due("22 2", Checks.of(2).groups(), 1);
        SumsToOne x = Checks.of(2, 3);
        C.due("22 2 3", x.groups(), 3);
        x.box(0, 3);
        C.due("22 box", x.groups(), 4);
    }

    private static void promise23GroupOf() {
        SumsToOne x = Checks.of(2, 3);
        int[] due = {0, 1, 2, 2, 1, 0, 1, 2, 1, 0, 1, 1, 0, 0, 0};
        for (int i = 0; i < due.length; i++) {
            C.due("23 group of " + i, x.groupOf(i), due[i]);
        }
        for (int i : new int[] {-1, 15, MIN, MAX}) {
            C.due("23 NONE", x.groupOf(i), NONE);
        }
    }

    private static void promise24Group() {
        SumsToOne x = Checks.of(2, 3);
        x.box(0, 3);
        int[][] due = {{6, 0, 3}, {6, 1, 2}, {6, 2, 1}, {3, 3, 1}};
        for (int g = 0; g < 4; g++) {
            for (int what = 0; what < 3; what++) {
                C.due("24 group " + g + " " + what, x.group(g, what), due[g][what]);
            }
            C.due("24 what", x.group(g, 3), NONE);
            C.due("24 what", x.group(g, -1), NONE);
        }
        for (int g : new int[] {-1, 4, MIN, MAX}) {
            C.due("24 NONE", x.group(g, 0), NONE);
        }
    }

    private static void promise25Lots() {
        SumsToOne x = Checks.of(2);
        int hits = 0;
        int z = 7;
        for (int n = 0; n < 50; n++) {
            z = z * 1103515245 + 12345;
            int power = (z & 0x7fffffff) / 65536 % 5 - 2;
            z = z * 1103515245 + 12345;
            int sign = (z & 0x7fffffff) / 65536 % 2 == 1 ? -1 : 1;
            boolean isAnswer = sign == 1 && Math.abs(power) == 1 || sign == -1 && power == 0;
            hits += isAnswer ? 1 : 0;
            C.due("25 lots " + (n + 1), x.lots(n + 1, 7), hits);
        }
        C.holds("25 some are", hits > 0);
        for (int n : new int[] {0, -1, 51, MIN, MAX}) {
            C.due("25 BAD", x.lots(n, 7), BAD);
        }
        SumsToOne none = new SumsToOne();
        C.due("25 no primes", none.lots(50, -1), 0);
        SumsToOne y = Checks.of(2, 3);
        y.box(1, 0);
        int all = 0;
        int seed = MIN;
        for (int n = 0; n < 50; n++) {
            seed = seed * 1103515245 + 12345;
            int power = (seed & 0x7fffffff) / 65536 % 5 - 2;
            seed = seed * 1103515245 + 12345;
            seed = seed * 1103515245 + 12345;
            boolean isMinus = (seed & 0x7fffffff) / 65536 % 2 == 1;
            all += isMinus ? power == 0 ? 1 : 0 : Math.abs(power) == 1 ? 1 : 0;
        }
        C.due("25 a draw for box 0, too", y.lots(50, MIN), all);
    }

    private static void promise26Sieve() {
        SumsToOne x = Checks.of(2, 3);
        for (int q : new int[] {MIN, -5, -1, 0, 1, 2, 4, 9, 15, 25, 49, 77, 91, 95, 98, 99, 101, MAX}) {
            C.due("26 BAD " + q, x.sieve(q), BAD);
        }
        C.due("26 STATE", x.sieve(3), STATE);
        C.due("26 1", x.sieve(5), 1);
        C.due("26 2", x.sieve(97), 2);
        C.due("26 again", x.sieve(5), 2);
        C.due("26 came to the end", x.sieveOf(1), 5);
        C.due("26 3", x.sieve(89), 3);
        C.due("26 4", x.sieve(7), 4);
        C.due("26 again of four", x.sieve(97), 4);
        C.due("26 fifth", x.sieve(11), 4);
        int[] due = {89, 7, 97, 11};
        for (int i = 0; i < 4; i++) {
            C.due("26 row", x.sieveOf(i), due[i]);
        }
        C.due("26 3 without 3", Checks.of(2).sieve(3), 1);
    }

    private static void promise27SieveOf() {
        SumsToOne x = Checks.of(2);
        C.due("27 none", x.sieveOf(0), NONE);
        x.sieve(5);
        x.sieve(3);
        C.due("27 0", x.sieveOf(0), 5);
        C.due("27 1", x.sieveOf(1), 3);
        for (int i : new int[] {-1, 2, 4, MIN, MAX}) {
            C.due("27 NONE", x.sieveOf(i), NONE);
        }
        x.prime(5);
        C.due("27 it became a prime", x.sieveOf(0), 3);
        C.due("27 one is left", x.sieveOf(1), NONE);
        x.drop(1);
        C.due("27 it does not come back", x.sieveOf(1), NONE);
    }

    private static void promise28Forget() {
        SumsToOne x = Checks.of(2);
        C.due("28 NONE", x.forget(5), NONE);
        x.sieve(5);
        x.sieve(7);
        x.sieve(11);
        C.due("28 a prime", x.forget(2), NONE);
        C.due("28 no number", x.forget(MIN), NONE);
        C.due("28 0", x.forget(0), NONE);
        C.due("28 goes", x.forget(7), 2);
        C.due("28 order stays", x.sieveOf(1), 11);
        C.due("28 again", x.forget(7), NONE);
        C.due("28 goes", x.forget(5), 1);
        C.due("28 goes", x.forget(11), 0);
        C.due("28 left 10", x.left(), 10);
    }

    private static void promise29Order() {
        SumsToOne x = Checks.of(2, 29, 13);
        C.due("29 2 by 3", x.order(0, 3), 2);
        C.due("29 2 by 7", x.order(0, 7), 3);
        C.due("29 13 by 3", x.order(1, 3), 1);
        C.due("29 29 by 7", x.order(2, 7), 1);
        C.due("29 2 by 97", x.order(0, 97), 48);
        C.due("29 13 by 97", x.order(1, 97), 96);
        C.due("29 2 by 89", x.order(0, 89), 11);
        C.due("29 BAD", x.order(0, 9), BAD);
        C.due("29 BAD 2", x.order(0, 2), BAD);
        C.due("29 BAD 101", x.order(0, 101), BAD);
        C.due("29 STATE", x.order(0, 13), STATE);
        C.due("29 NONE ahead of BAD", x.order(3, 9), NONE);
        C.due("29 NONE", x.order(-1, 13), NONE);
        C.due("29 no sieve comes", x.count(1), 0);
    }

    private static void promise30Reach() {
        SumsToOne none = new SumsToOne();
        C.due("30 no primes", none.reach(97), 2);
        C.due("30 no primes", none.reach(3), 2);
        SumsToOne x = Checks.of(2);
        C.due("30 2 by 7", x.reach(7), 6);
        C.due("30 2 by 73", x.reach(73), 18);
        C.due("30 2 by 89", x.reach(89), 22);
        C.due("30 2 by 31", x.reach(31), 10);
        C.due("30 2 by 97", x.reach(97), 48);
        x.prime(3);
        C.due("30 2 3 by 31", x.reach(31), 30);
        C.due("30 BAD", x.reach(1), BAD);
        C.due("30 BAD", x.reach(2), BAD);
        C.due("30 BAD", x.reach(MAX), BAD);
        C.due("30 STATE", x.reach(3), STATE);
    }

    private static void promise31Passes() {
        SumsToOne x = Checks.of(2);
        C.due("31 1 less 1 is 0", x.passes(0, 31), 0);
        Checks.read(x, 0, "2^2");
        C.due("31 -3 by 31", x.passes(0, 31), 0);
        C.due("31 -3 by 5", x.passes(0, 5), 1);
        Checks.read(x, 0, "-1");
        C.due("31 2 by 31", x.passes(0, 31), 1);
        Checks.read(x, 0, "2^-1");
        C.due("31 a half by 31", x.passes(0, 31), 1);
        Checks.read(x, 0, "-2^-1");
        C.due("31 3 halves by 31", x.passes(0, 31), 0);
        Checks.read(x, 0, "2^5");
        C.due("31 32 is 1", x.passes(0, 31), 0);
        C.due("31 BAD", x.passes(0, 33), BAD);
        C.due("31 STATE", Checks.of(3).passes(0, 3), STATE);
        for (int shelf : NO_SHELF) {
            C.due("31 NONE ahead of BAD", x.passes(shelf, 33), NONE);
            C.due("31 NONE ahead of STATE", Checks.of(3).passes(shelf, 3), NONE);
        }
    }

    private static void promise32Left() {
        SumsToOne x = new SumsToOne();
        C.due("32 1 and -1", x.left(), 2);
        x.sieve(3);
        C.due("32 -1 by 3", x.left(), 1);
        x.forget(3);
        x.sieve(7);
        C.due("32 -1 by 7", x.left(), 0);
        x.prime(2);
        x.forget(7);
        C.due("32 all", x.left(), 10);
        x.sieve(31);
        // Of 1, 2, 4, a half, a fourth and these below 0 only -1, 2 and a half pass.
        C.due("32 by 31", x.left(), 3);
        x.box(0, 0);
        C.due("32 box 0", x.left(), 1);
        x.box(0, 4);
        x.prime(3);
        x.box(1, 4);
        C.due("32 box 4 by 31: all but those that are 1", x.left(), countNotOneModulo31());
        x.image();
        x.forget(31);
        C.due("32 forgotten", x.left(), 162);
        x.undo();
        C.due("32 undone", x.left(), countNotOneModulo31());
    }

    private static int countNotOneModulo31() {
        int others = 0;
        for (int e = 0; e < 9; e++) {
            for (int f = 0; f < 9; f++) {
                int power = 1;
                for (int n = 0; n < e + 26; n++) {
                    power = power * 2 % 31;
                }
                for (int n = 0; n < f + 26; n++) {
                    power = power * 3 % 31;
                }
                others += power == 1 ? 0 : 1;
                others += power == 30 ? 0 : 1;
            }
        }
        return others;
    }

    private static void promise33Feed() {
        SumsToOne x = new SumsToOne();
        for (int b : new int[] {MIN, -1, 0, 31, 127, 128, 255, 256 + 50, MAX}) {
            C.due("33 BAD", x.feed(b), BAD);
        }
        for (int n = 1; n <= 60; n++) {
            C.due("33 feed", x.feed(n % 2 == 0 ? 32 : 126), n);
        }
        C.due("33 FULL", x.feed(50), FULL);
        C.due("33 BAD ahead of FULL", x.feed(31), BAD);
        C.due("33 60", x.count(2), 60);
    }

    private static void promise34Wipe() {
        SumsToOne x = new SumsToOne();
        C.due("34 empty", x.wipe(), 0);
        Checks.feed(x, "-2");
        C.due("34 two", x.wipe(), 2);
        C.due("34 again", x.wipe(), 0);
        Checks.feed(x, "1");
        C.due("34 read", x.read(0), 1);
    }

    private static void promise35ReadTexts() {
        String[] texts = {"1", "-1", "2", "-2", "11", "2^6", "2^-6", "2^0", "2^-0", "2*3", "-11^2*3^-1*2", "2*2", "2^6*2^6*2^-6", "2^6*2^6*2^-6*2^-6", "3^1"};
        long[] above = {1, -1, 2, -2, 11, 64, 1, 1, 1, 6, -242, 4, 64, 1, 3};
        long[] below = {1, 1, 1, 1, 1, 1, 64, 1, 1, 1, 3, 1, 1, 1, 1};
        SumsToOne x = Checks.of(2, 3, 11);
        for (int i = 0; i < texts.length; i++) {
            Checks.read(x, 0, "-2*3*11");
            C.due("35 read " + texts[i], Checks.read(x, 0, texts[i]), 1);
            C.due("35 above " + texts[i], x.value(0, 0), above[i]);
            C.due("35 below " + texts[i], x.value(0, 1), below[i]);
            C.due("35 the tape is empty", x.count(2), 0);
        }
        Checks.feed(x, "-1");
        for (int shelf : NO_SHELF) {
            C.due("35 NONE", x.read(shelf), NONE);
        }
        C.due("35 the tape stays", x.count(2), 2);
        C.due("35 and is read", x.read(3), 1);
        C.due("35 as it was", x.value(3, 0), -1);
    }

    private static void promise35ReadFaults() {
        String[] texts = {"", "-", "--1", "+1", " 1", "1 ", "11 ", "0", "-0", "02", "1*2", "1^2", "10", "12", "13", "2*1", "2*1*3", "2*11^", "2*", "*2", "2**3",
            "2^", "2^-", "2^7", "2^-7", "2^--1", "2^12", "2^-12", "2^3^2", "4", "9*2", "23", "112", "222", "2*0", "2*03", "-1*2", "-12", "-4", "2-", "1-", "1111", "2^ 1", "a", "2*-3", "31", "3^6*2^6*2^6x"};
        int[] places = {0, 1, 1, 0, 0, 1, 2, 0, 1, 0, 1, 1, 2, 2, 2, 3, 3, 5, 2, 0, 2,
            2, 3, 2, 3, 3, 3, 4, 3, 1, 1, 2, 2, 2, 2, 2, 2, 3, 2, 1, 1, 2, 2, 0, 2, 2, 11};
        SumsToOne x = Checks.of(2, 3, 11);
        Checks.read(x, 1, "-2^5*11");
        for (int i = 0; i < texts.length; i++) {
            C.due("35 fault of " + texts[i], Checks.read(x, 1, texts[i]), -100 - places[i]);
            C.due("35 the tape is empty", x.count(2), 0);
            C.due("35 the shelf stays", x.value(1, 0), -352);
        }
        SumsToOne none = new SumsToOne();
        C.due("35 no primes", Checks.read(none, 0, "2"), -101);
        C.due("35 1", Checks.read(none, 0, "-1"), 1);
        StringBuilder longest = new StringBuilder("2");
        while (longest.length() < 59) {
            longest.append("*2");
        }
        C.due("35 59 bytes", Checks.read(x, 0, longest.toString()), WRONG);
        C.due("35 60 bytes", Checks.read(x, 0, longest + "*"), -160);
    }

    private static void promise35ReadWrong() {
        SumsToOne x = Checks.of(2, 3);
        for (String text : new String[] {"2^6*2", "2*2^6", "2^-6*2^-1", "2^4*3*2^3", "-3^6*3^6"}) {
            Checks.feed(x, text);
            C.due("35 wrong " + text, x.read(2), WRONG);
            C.due("35 stays", x.value(2, 0), 1);
            C.due("35 the tape is empty", x.count(2), 0);
        }
        C.due("35 fault ahead of wrong", Checks.read(x, 2, "2^6*2^6*5"), -109);
        C.due("35 beyond only on the way", Checks.read(x, 2, "2^-6*2^-6*2^6"), 1);
        C.due("35 below", x.value(2, 1), 64);
    }

    private static void promise36Spelled() {
        String[] texts = {"1", "-1", "2", "-2", "2^-1", "2^2", "2*3", "-2^-6*3^-6*5^-6*31^-6", "3*31", "5^6", "2*5^-3", "31^2"};
        SumsToOne x = Checks.of(2, 3, 5, 31);
        for (String text : texts) {
            Checks.read(x, 0, text);
            C.due("36 how many " + text, x.spelled(0, -1), text.length());
            for (int i = 0; i < text.length(); i++) {
                C.due("36 byte of " + text, x.spelled(0, i), text.charAt(i));
            }
            C.due("36 behind", x.spelled(0, text.length()), NONE);
        }
        Checks.read(x, 0, "31*2^0*3^2*2^-1*3^-1");
        C.holds("36 rising", Checks.spelled(x, 0).equals("2^-1*3*31"));
        for (int i : new int[] {-2, MIN, MAX, 60}) {
            C.due("36 NONE i", x.spelled(0, i), NONE);
        }
        for (int shelf : NO_SHELF) {
            C.due("36 NONE shelf", x.spelled(shelf, -1), NONE);
        }
    }

    private static void promise37List() {
        SumsToOne x = new SumsToOne();
        for (int list = 0; list < 3; list++) {
            C.due("37 20", x.list(list, 20), 1);
            C.due("37 0 in it", x.get(list, 19), 0);
        }
        C.due("37 lay", x.lay(1, 0, 5), 1);
        C.due("37 anew", x.list(1, 3), 1);
        C.due("37 all 0", x.get(1, 0), 0);
        C.due("37 three", x.get(1, 3), VOID);
        C.due("37 BAD", x.list(1, 21), BAD);
        C.due("37 BAD", x.list(1, MAX), BAD);
        C.due("37 BELOW", x.list(1, -2), BELOW);
        C.due("37 BELOW", x.list(1, MIN), BELOW);
        C.due("37 stays", x.get(1, 2), 0);
        C.due("37 empty", x.list(1, 0), 1);
        C.due("37 is there", x.count(3), 3);
        C.due("37 missing", x.list(1, -1), 1);
        C.due("37 again", x.list(1, -1), 1);
        C.due("37 two", x.count(3), 2);
        for (int list : new int[] {-1, 3, MIN, MAX}) {
            C.due("37 NONE ahead of BAD", x.list(list, 21), NONE);
            C.due("37 NONE ahead of BELOW", x.list(list, -2), NONE);
        }
    }

    private static void promise38Lay() {
        SumsToOne x = new SumsToOne();
        C.due("38 MISSING ahead of PLACE", x.lay(0, -1, 1), MISSING);
        x.list(0, 2);
        C.due("38 lay", x.lay(0, 1, VOID), 1);
        C.due("38 get", x.get(0, 1), VOID);
        C.due("38 lay", x.lay(0, 1, Long.MAX_VALUE), 1);
        C.due("38 get", x.get(0, 1), Long.MAX_VALUE);
        C.due("38 other place", x.get(0, 0), 0);
        for (int i : new int[] {-1, 2, 20, MIN, MAX}) {
            C.due("38 PLACE", x.lay(0, i, 1), PLACE);
        }
        x.list(1, 0);
        C.due("38 PLACE of none", x.lay(1, 0, 1), PLACE);
        for (int list : new int[] {-1, 3, MIN, MAX}) {
            C.due("38 NONE", x.lay(list, 0, 1), NONE);
        }
    }

    private static void promise39Get() {
        SumsToOne x = new SumsToOne();
        C.due("39 missing", x.get(0, 0), VOID);
        x.list(0, 3);
        x.lay(0, 2, -7);
        C.due("39 get", x.get(0, 2), -7);
        for (int i : new int[] {-1, 3, 20, MIN, MAX}) {
            C.due("39 no place", x.get(0, i), VOID);
        }
        for (int list : new int[] {-1, 3, MIN, MAX}) {
            C.due("39 no list", x.get(list, 0), VOID);
        }
        x.list(0, -1);
        C.due("39 missing again", x.get(0, 2), VOID);
    }

    private static void promise40Film() {
        SumsToOne x = Checks.of(2, 3);
        C.due("40 ten at most", x.film(0, 0), 10);
        for (int place = 0; place < 20; place++) {
            C.due("40 place", x.get(0, place), x.answer(place / 2, place % 2));
        }
        C.due("40 ten more", x.film(1, 5), 10);
        C.due("40 last place", x.get(1, 19), x.answer(14, 1));
        C.due("40 nine", x.film(0, 6), 9);
        C.due("40 a shorter list", x.get(0, 18), VOID);
        C.due("40 one", x.film(2, 14), 1);
        C.due("40 above", x.get(2, 0), 3);
        C.due("40 below", x.get(2, 1), 4);
        for (int i : new int[] {-1, 15, MIN, MAX}) {
            C.due("40 NONE i", x.film(2, i), NONE);
        }
        C.due("40 stays", x.get(2, 1), 4);
        for (int list : new int[] {-1, 3, MIN, MAX}) {
            C.due("40 NONE list", x.film(list, 0), NONE);
        }
        C.due("40 no answers", new SumsToOne().film(0, 0), NONE);
    }

    private static void promise41Judge() {
        SumsToOne x = Checks.of(2, 3);
        C.due("41 MISSING", x.judge(0, 0), MISSING);
        C.due("41 NONE ahead of MISSING", x.judge(0, -1), NONE);
        C.due("41 NONE", x.judge(0, MIN), NONE);
        for (int list : new int[] {-1, 3, MIN, MAX}) {
            C.due("41 NONE list", x.judge(list, 0), NONE);
        }
        x.film(0, 3);
        C.due("41 all", x.judge(0, 3), 120);
        C.due("41 from another on", x.judge(0, 4), 0);
        x.lay(0, 7, 99);
        C.due("41 place 7", x.judge(0, 3), 7);
        x.film(0, 14);
        C.due("41 two", x.judge(0, 14), 102);
        x.list(0, 3);
        x.lay(0, 0, 3);
        x.lay(0, 1, 4);
        C.due("41 beyond all", x.judge(0, 14), 2);
        x.lay(0, 2, VOID);
        C.due("41 beyond all, with VOID laid", x.judge(0, 14), 2);
        C.due("41 i beyond all", x.judge(0, 15), 0);
        C.due("41 i the greatest", x.judge(0, MAX), 0);
        x.list(0, 1);
        x.lay(0, 0, 3);
        C.due("41 above alone", x.judge(0, 14), 101);
        x.list(0, 0);
        C.due("41 nothing told", x.judge(0, MAX), 100);
    }

    private static void promise42Image() {
        SumsToOne x = new SumsToOne();
        C.due("42 none", x.image(), 0);
        x.prime(2);
        x.prime(5);
        C.due("42 two", x.image(), 2);
        x.drop(0);
        C.due("42 undo", x.undo(), 2);
        x.drop(0);
        C.due("42 taken anew", x.image(), 1);
        x.prime(7);
        C.due("42 undo", x.undo(), 1);
        C.due("42 the newer one", x.primeOf(0), 5);
    }

    private static void promise43Undo() {
        SumsToOne x = Checks.of(2, 3);
        C.due("43 STATE", x.undo(), STATE);
        x.box(1, 4);
        x.put(0, 1, -4);
        x.sign(3, -1);
        x.sieve(5);
        x.sieve(7);
        x.image();
        x.prime(5);
        x.drop(0);
        x.box(0, 0);
        x.put(0, 0, 1);
        x.sign(3, 1);
        x.forget(7);
        x.sieve(11);
        x.list(0, 2);
        Checks.feed(x, "12");
        C.due("43 other answers", x.answers(), 0);
        C.due("43 undo", x.undo(), 2);
        C.due("43 prime", x.primeOf(0), 2);
        C.due("43 box", x.boxOf(1), 4);
        C.due("43 box", x.boxOf(0), 2);
        C.due("43 power", x.powerOf(0, 1), 6);
        C.due("43 sign", x.value(3, 0), -1);
        C.due("43 sieves", x.count(1), 2);
        C.due("43 sieve 0", x.sieveOf(0), 5);
        C.due("43 sieve 1", x.sieveOf(1), 7);
        C.due("43 lists stay", x.count(3), 1);
        C.due("43 the tape stays", x.count(2), 2);
        C.due("43 answers", x.answers(), 15);
        x.put(0, 0, 3);
        x.box(0, 1);
        x.forget(5);
        C.due("43 again", x.undo(), 2);
        C.due("43 the image was not touched", x.powerOf(0, 0), 10);
        C.due("43 the image was not touched", x.boxOf(0), 2);
        C.due("43 the image was not touched", x.sieveOf(0), 5);
    }

    private static void promise44Count() {
        SumsToOne x = Checks.of(2, 3, 5);
        x.sieve(7);
        x.sieve(11);
        Checks.feed(x, "2*3*5");
        x.list(0, 0);
        x.sign(2, -1);
        x.put(3, 0, 1);
        C.due("44 primes", x.count(0), 3);
        C.due("44 sieves", x.count(1), 2);
        C.due("44 bytes", x.count(2), 5);
        C.due("44 lists", x.count(3), 1);
        C.due("44 pairs", x.count(4), 2);
        x.box(0, 0);
        C.due("44 pairs need no box", x.count(4), 2);
        x.put(0, 1, -1);
        x.put(1, 2, 1);
        C.due("44 all four", x.count(4), 4);
        x.put(0, 1, 0);
        x.put(1, 2, 0);
        x.drop(0);
        C.due("44 -1 is no pair without 2", x.count(4), 0);
        for (int what : new int[] {-1, 5, MIN, MAX}) {
            C.due("44 NONE", x.count(what), NONE);
        }
    }
}
