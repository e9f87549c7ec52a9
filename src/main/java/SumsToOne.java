import java.util.Arrays;

/**
 * Units made of told primes and a sign, the pairs of them whose sum is one, and the sieves that
 * narrow such pairs down. The words in capitals are those of the document.
 */
public final class SumsToOne {
    public static final int NONE = -1, BAD = -2, STATE = -3, FULL = -4, NOT = -5, OVER = -6, MISSING = -11, PLACE = -13, BELOW = -14;
    public static final long VOID = Long.MIN_VALUE;

    private static final int WRONG = -9;
    private static final int FAULT = -100;
    private static final int ALL_AS_TOLD = 100;
    private static final int FINE = 1;

    private static final int MOST_PRIMES = 4;
    private static final int GREATEST_PRIME = 31;
    private static final int GREATEST_PRODUCT = 1000;
    private static final int FIRST_BOX = 2;
    private static final int GREATEST_BOX = 4;
    private static final int GREATEST_POWER = 6;
    private static final int POWER_SHIFT = 10;
    private static final int ALL_SHELVES = 4;
    private static final int ALL_FORMS = 6;
    private static final int MOST_SIEVES = 4;
    private static final int LEAST_SIEVE = 3;
    private static final int GREATEST_SIEVE = 97;
    private static final int MOST_LOTS = 50;
    private static final int ALL_BUT_THE_SIGN_BIT = 0x7fffffff;
    private static final int MOST_BYTES = 60;
    private static final int LEAST_BYTE = 32;
    private static final int GREATEST_BYTE = 126;
    private static final int MOST_SPELLED = 32;
    private static final int ALL_LISTS = 3;
    private static final int MOST_LONGS = 20;
    private static final int MOST_FILMED = 10;
    // No PRIMES and BOXES give more than 44 GROUPS (2, 3, 5, 7 do, each with BOX 4), of 6 ANSWERS at most.
    private static final int MOST_GROUPS = 44;
    private static final int MOST_ANSWERS = 264;

    private final Desk now = new Desk();
    private final Desk kept = new Desk();
    private final Answers found = new Answers();
    private final Sifter sifter = new Sifter();
    private final Modulus modulus = new Modulus();
    private final Unit work = new Unit();
    private final Split split = new Split();
    private final Bytes tape = new Bytes(MOST_BYTES);
    private final Bytes spelling = new Bytes(MOST_SPELLED);
    private final Reader reader = new Reader();
    private final Lists lists = new Lists();
    private boolean hasImage;
    private boolean answersKnown;
    private boolean leftKnown;
    private int leftLast;

    public SumsToOne() {
        // The fields begin as the document wants it: no PRIMES, 1 in all SHELVES, no IMAGE.
    }

    // ---- primes, boxes

    public int prime(int p) {
        if (!isPrimeWithin(p, 2, GREATEST_PRIME)) {
            return BAD;
        }
        Base base = now.base;
        if (base.placeOf(p) >= 0) {
            return STATE;
        }
        if (base.size >= MOST_PRIMES || base.product() * p > GREATEST_PRODUCT) {
            return FULL;
        }
        now.addPrime(p);
        primesChanged();
        return base.size;
    }

    public int drop(int i) {
        if (!now.base.has(i)) {
            return NONE;
        }
        now.removePrime(i);
        primesChanged();
        return now.base.size;
    }

    public int primeOf(int i) {
        return now.base.has(i) ? now.base.primes[i] : NONE;
    }

    public int box(int i, int b) {
        if (!now.base.has(i)) {
            return NONE;
        }
        if (b < 0 || b > GREATEST_BOX) {
            return BAD;
        }
        int before = now.base.boxes[i];
        now.base.boxes[i] = b;
        primesChanged();
        return before;
    }

    public int boxOf(int i) {
        return now.base.has(i) ? now.base.boxes[i] : NONE;
    }

    // ---- units

    public int put(int shelf, int i, int e) {
        if (!isShelf(shelf) || !now.base.has(i)) {
            return NONE;
        }
        if (e < -GREATEST_POWER || e > GREATEST_POWER) {
            return BAD;
        }
        int[] powers = now.shelves[shelf].powers;
        int before = powers[i];
        powers[i] = e;
        return before + POWER_SHIFT;
    }

    public int sign(int shelf, int s) {
        if (!isShelf(shelf)) {
            return NONE;
        }
        if (s != 1 && s != -1) {
            return BAD;
        }
        now.shelves[shelf].sign = s;
        return FINE;
    }

    public int powerOf(int shelf, int i) {
        if (!isShelf(shelf) || !now.base.has(i)) {
            return NONE;
        }
        return now.shelves[shelf].powers[i] + POWER_SHIFT;
    }

    public long value(int shelf, int part) {
        if (!isShelf(shelf) || !isPart(part)) {
            return VOID;
        }
        Unit unit = now.shelves[shelf];
        return part == 0 ? unit.above(now.base) : unit.below(now.base);
    }

    public int height(int shelf) {
        return isShelf(shelf) ? now.shelves[shelf].greatestPower() : NONE;
    }

    public int isIn(int shelf) {
        if (!isShelf(shelf)) {
            return NONE;
        }
        return now.shelves[shelf].isWithin(now.base) ? 1 : 0;
    }

    public int times(int shelf, int other, int to) {
        return combine(shelf, other, to, 1);
    }

    public int over(int shelf, int other, int to) {
        return combine(shelf, other, to, -1);
    }

    public int partner(int shelf, int to) {
        if (!isShelf(shelf) || !isShelf(to)) {
            return NONE;
        }
        if (!hasPartner(now.shelves[shelf])) {
            return NOT;
        }
        now.shelves[to].copy(work);
        return FINE;
    }

    public int form(int shelf, int k, int to) {
        if (!isShelf(shelf) || !isShelf(to) || k < 0 || k >= ALL_FORMS) {
            return NONE;
        }
        if (!hasPartner(now.shelves[shelf])) {
            return NOT;
        }
        if (!work.setFraction(now.base, split.formAbove(k), split.formBelow(k))) {
            return NOT;
        }
        now.shelves[to].copy(work);
        return FINE;
    }

    public int forms(int shelf) {
        if (!isShelf(shelf)) {
            return NONE;
        }
        return hasPartner(now.shelves[shelf]) ? split.unlikeForms() : NOT;
    }

    // ---- answers

    public int answers() {
        return known().size;
    }

    public long answer(int i, int part) {
        return isPart(part) ? known().told(i, part) : VOID;
    }

    public int take(int i, int shelf) {
        Answers all = known();
        if (!all.has(i) || !isShelf(shelf)) {
            return NONE;
        }
        if (!work.setFraction(now.base, all.above[i], all.below[i])) {
            return NONE;
        }
        now.shelves[shelf].copy(work);
        return FINE;
    }

    public int which(int shelf) {
        if (!isShelf(shelf)) {
            return NONE;
        }
        int place = known().numberOf(now.shelves[shelf], now.base);
        return place < 0 ? NOT : place;
    }

    public int groups() {
        return known().groupCount;
    }

    public int groupOf(int i) {
        Answers all = known();
        return all.has(i) ? all.group[i] : NONE;
    }

    public int group(int g, int what) {
        Answers all = known();
        if (g < 0 || g >= all.groupCount) {
            return NONE;
        }
        switch (what) {
            case 0:
                return all.sizeOfGroup(g);
            case 1:
                return all.firstOfGroup(g);
            case 2:
                return greatestHeightIn(all, g);
            default:
                return NONE;
        }
    }

    public int lots(int n, int z) {
        if (n < 1 || n > MOST_LOTS) {
            return BAD;
        }
        Answers all = known();
        int hits = 0;
        int seed = z;
        for (int lot = 0; lot < n; lot++) {
            work.setOne();
            for (int i = 0; i < now.base.size; i++) {
                int box = now.base.boxes[i];
                seed = nextSeed(seed);
                work.powers[i] = draw(seed, 2 * box + 1) - box;
            }
            seed = nextSeed(seed);
            work.sign = draw(seed, 2) == 1 ? -1 : 1;
            if (all.numberOf(work, now.base) >= 0) {
                hits++;
            }
        }
        return hits;
    }

    // ---- sieves

    public int sieve(int q) {
        int fault = faultOfModulus(q);
        if (fault != FINE) {
            return fault;
        }
        now.sieves.ask(q);
        leftKnown = false;
        return now.sieves.size;
    }

    public int sieveOf(int i) {
        return i >= 0 && i < now.sieves.size ? now.sieves.row[i] : NONE;
    }

    public int forget(int q) {
        if (!now.sieves.remove(q)) {
            return NONE;
        }
        leftKnown = false;
        return now.sieves.size;
    }

    public int order(int i, int q) {
        if (!now.base.has(i)) {
            return NONE;
        }
        int fault = faultOfModulus(q);
        return fault == FINE ? orderModulo(now.base.primes[i], q) : fault;
    }

    public int reach(int q) {
        int fault = faultOfModulus(q);
        if (fault != FINE) {
            return fault;
        }
        modulus.fill(now.base, q);
        return modulus.size;
    }

    public int passes(int shelf, int q) {
        if (!isShelf(shelf)) {
            return NONE;
        }
        int fault = faultOfModulus(q);
        if (fault != FINE) {
            return fault;
        }
        modulus.fill(now.base, q);
        return modulus.letsPass(modulus.residueOf(now.shelves[shelf], now.base)) ? 1 : 0;
    }

    public int left() {
        if (!leftKnown) {
            leftLast = sifter.sift(now.base, now.sieves);
            leftKnown = true;
        }
        return leftLast;
    }

    // ---- texts

    public int feed(int letter) {
        if (letter < LEAST_BYTE || letter > GREATEST_BYTE) {
            return BAD;
        }
        return tape.add(letter) ? tape.size : FULL;
    }

    public int wipe() {
        int before = tape.size;
        tape.clear();
        return before;
    }

    public int read(int shelf) {
        if (!isShelf(shelf)) {
            return NONE;
        }
        boolean isText = reader.scan(tape, now.base);
        tape.clear();
        if (!isText) {
            return FAULT - reader.place;
        }
        if (!reader.unit.isInRange()) {
            return WRONG;
        }
        now.shelves[shelf].copy(reader.unit);
        return FINE;
    }

    public int spelled(int shelf, int i) {
        if (!isShelf(shelf) || i < -1) {
            return NONE;
        }
        now.shelves[shelf].spell(now.base, spelling);
        if (i == -1) {
            return spelling.size;
        }
        return i < spelling.size ? spelling.at(i) : NONE;
    }

    // ---- lists, the image

    public int list(int list, int n) {
        if (!isList(list)) {
            return NONE;
        }
        if (n > MOST_LONGS) {
            return BAD;
        }
        if (n < -1) {
            return BELOW;
        }
        lists.start(list, n);
        return FINE;
    }

    public int lay(int list, int i, long v) {
        if (!isList(list)) {
            return NONE;
        }
        if (lists.isMissing(list)) {
            return MISSING;
        }
        if (!lists.has(list, i)) {
            return PLACE;
        }
        lists.rows[list][i] = v;
        return FINE;
    }

    public long get(int list, int i) {
        return isList(list) && lists.has(list, i) ? lists.rows[list][i] : VOID;
    }

    public int film(int list, int i) {
        Answers all = known();
        if (!isList(list) || !all.has(i)) {
            return NONE;
        }
        int filmed = Math.min(MOST_FILMED, all.size - i);
        lists.start(list, 2 * filmed);
        for (int n = 0; n < filmed; n++) {
            lists.rows[list][2 * n] = all.above[i + n];
            lists.rows[list][2 * n + 1] = all.below[i + n];
        }
        return filmed;
    }

    public int judge(int list, int i) {
        if (!isList(list) || i < 0) {
            return NONE;
        }
        if (lists.isMissing(list)) {
            return MISSING;
        }
        Answers all = known();
        int size = lists.sizes[list];
        for (int place = 0; place < size; place++) {
            // A long, as i may be the greatest int.
            long number = (long) i + place / 2;
            if (number >= all.size || lists.rows[list][place] != all.told((int) number, place % 2)) {
                return place;
            }
        }
        return ALL_AS_TOLD + size;
    }

    public int image() {
        kept.copy(now);
        hasImage = true;
        return now.base.size;
    }

    public int undo() {
        if (!hasImage) {
            return STATE;
        }
        now.copy(kept);
        primesChanged();
        return now.base.size;
    }

    public int count(int what) {
        switch (what) {
            case 0:
                return now.base.size;
            case 1:
                return now.sieves.size;
            case 2:
                return tape.size;
            case 3:
                return lists.howManyThere();
            case 4:
                return howManyPairs();
            default:
                return NONE;
        }
    }

    // ---- what the calls share

    private static boolean isShelf(int shelf) {
        return shelf >= 0 && shelf < ALL_SHELVES;
    }

    private static boolean isPart(int part) {
        return part == 0 || part == 1;
    }

    private static boolean isList(int list) {
        return list >= 0 && list < ALL_LISTS;
    }

    private static boolean isPrimeWithin(int n, int least, int greatest) {
        if (n < least || n > greatest) {
            return false;
        }
        for (int d = 2; d < n; d++) {
            if (n % d == 0) {
                return false;
            }
        }
        return true;
    }

    private static int nextSeed(int seed) {
        return seed * 1103515245 + 12345;
    }

    private static int draw(int seed, int m) {
        return m < 1 ? 0 : (seed & ALL_BUT_THE_SIGN_BIT) / 65536 % m;
    }

    private static int orderModulo(int p, int q) {
        int residue = 1;
        for (int k = 1; k < q; k++) {
            residue = residue * p % q;
            if (residue == 1) {
                return k;
            }
        }
        return NONE;
    }

    private static boolean divides(int p, long v) {
        return p > 1 && v % p == 0;
    }

    private void primesChanged() {
        answersKnown = false;
        leftKnown = false;
    }

    private Answers known() {
        if (!answersKnown) {
            found.fill(now.base);
            answersKnown = true;
        }
        return found;
    }

    private int combine(int shelf, int other, int to, int turn) {
        if (!isShelf(shelf) || !isShelf(other) || !isShelf(to)) {
            return NONE;
        }
        // By way of work, as to may be one of the two and keeps its UNIT if the answer is OVER.
        work.setProduct(now.shelves[shelf], now.shelves[other], turn);
        if (!work.isInRange()) {
            return OVER;
        }
        now.shelves[to].copy(work);
        return FINE;
    }

    /** Leaves the PARTNER in work and both as a sum in split, for the FORMS. */
    private boolean hasPartner(Unit unit) {
        split.set(unit.above(now.base), unit.below(now.base));
        return work.setFraction(now.base, split.c, split.b);
    }

    private int howManyPairs() {
        int pairs = 0;
        for (int shelf = 0; shelf < ALL_SHELVES; shelf++) {
            if (hasPartner(now.shelves[shelf])) {
                pairs++;
            }
        }
        return pairs;
    }

    private int greatestHeightIn(Answers all, int g) {
        int greatest = 0;
        for (int i = 0; i < all.size; i++) {
            if (all.group[i] == g && work.setFraction(now.base, all.above[i], all.below[i])) {
                greatest = Math.max(greatest, work.greatestPower());
            }
        }
        return greatest;
    }

    private int faultOfModulus(int q) {
        if (!isPrimeWithin(q, LEAST_SIEVE, GREATEST_SIEVE)) {
            return BAD;
        }
        return now.base.placeOf(q) >= 0 ? STATE : FINE;
    }

    /** PRIMES, rising, each with its BOX. */
    private static final class Base {
        final int[] primes = new int[MOST_PRIMES];
        final int[] boxes = new int[MOST_PRIMES];
        int size;

        boolean has(int i) {
            return i >= 0 && i < size;
        }

        int placeOf(int p) {
            for (int i = 0; i < size; i++) {
                if (primes[i] == p) {
                    return i;
                }
            }
            return -1;
        }

        int product() {
            int product = 1;
            for (int i = 0; i < size; i++) {
                product *= primes[i];
            }
            return product;
        }

        /** Where it stands now; -1 if there is no room. */
        int insert(int p) {
            if (size >= MOST_PRIMES) {
                return -1;
            }
            int place = size;
            for (int i = size; i > 0 && primes[i - 1] > p; i--) {
                primes[i] = primes[i - 1];
                boxes[i] = boxes[i - 1];
                place = i - 1;
            }
            primes[place] = p;
            boxes[place] = FIRST_BOX;
            size++;
            return place;
        }

        void removeAt(int place) {
            if (!has(place)) {
                return;
            }
            for (int i = place; i < size - 1; i++) {
                primes[i] = primes[i + 1];
                boxes[i] = boxes[i + 1];
            }
            size--;
        }

        /** Whether v is a product of PRIMES to POWERS of 0 up to their BOXES. */
        boolean boxesHold(long v) {
            long rest = v;
            for (int i = 0; i < size; i++) {
                for (int n = 0; n < boxes[i] && divides(primes[i], rest); n++) {
                    rest /= primes[i];
                }
            }
            return rest == 1;
        }

        void copy(Base from) {
            System.arraycopy(from.primes, 0, primes, 0, MOST_PRIMES);
            System.arraycopy(from.boxes, 0, boxes, 0, MOST_PRIMES);
            size = from.size;
        }
    }

    /** A sign and a POWER for each PRIME; the places behind the PRIMES' hold 0. */
    private static final class Unit {
        final int[] powers = new int[MOST_PRIMES];
        int sign = 1;

        void setOne() {
            Arrays.fill(powers, 0);
            sign = 1;
        }

        void copy(Unit from) {
            System.arraycopy(from.powers, 0, powers, 0, MOST_PRIMES);
            sign = from.sign;
        }

        void insertPower(int place) {
            for (int i = MOST_PRIMES - 1; i > place; i--) {
                powers[i] = powers[i - 1];
            }
            if (place >= 0 && place < MOST_PRIMES) {
                powers[place] = 0;
            }
        }

        void removePower(int place) {
            for (int i = Math.max(place, 0); i < MOST_PRIMES - 1; i++) {
                powers[i] = powers[i + 1];
            }
            powers[MOST_PRIMES - 1] = 0;
        }

        long above(Base base) {
            return sign * oneSide(base, 1);
        }

        long below(Base base) {
            return oneSide(base, -1);
        }

        /** A long holds it: PRIMES together are 1000 at most, and that to the sixth is 10 to the 18th. */
        private long oneSide(Base base, int side) {
            long product = 1;
            for (int i = 0; i < base.size; i++) {
                int power = side * powers[i];
                for (int n = 0; n < power; n++) {
                    product *= base.primes[i];
                }
            }
            return product;
        }

        int greatestPower() {
            int greatest = 0;
            for (int power : powers) {
                greatest = Math.max(greatest, Math.abs(power));
            }
            return greatest;
        }

        boolean isInRange() {
            return greatestPower() <= GREATEST_POWER;
        }

        boolean isWithin(Base base) {
            for (int i = 0; i < base.size; i++) {
                if (Math.abs(powers[i]) > base.boxes[i]) {
                    return false;
                }
            }
            return true;
        }

        /** The first times (turn 1) or by (turn -1) the second one, even if that is beyond the range. */
        void setProduct(Unit first, Unit second, int turn) {
            for (int i = 0; i < MOST_PRIMES; i++) {
                powers[i] = first.powers[i] + turn * second.powers[i];
            }
            sign = first.sign * second.sign;
        }

        /** A fraction in lowest terms becomes a UNIT; false, if it is none. */
        boolean setFraction(Base base, long above, long below) {
            setOne();
            if (above == 0 || below <= 0) {
                return false;
            }
            sign = above < 0 ? -1 : 1;
            long up = Math.abs(above);
            long down = below;
            for (int i = 0; i < base.size; i++) {
                int p = base.primes[i];
                for (int n = 0; n < GREATEST_POWER && divides(p, up); n++) {
                    up /= p;
                    powers[i]++;
                }
                for (int n = 0; n < GREATEST_POWER && divides(p, down); n++) {
                    down /= p;
                    powers[i]--;
                }
            }
            return up == 1 && down == 1;
        }

        void spell(Base base, Bytes to) {
            to.clear();
            if (sign < 0) {
                to.add('-');
            }
            boolean isFirst = true;
            for (int i = 0; i < base.size; i++) {
                if (powers[i] == 0) {
                    continue;
                }
                if (!isFirst) {
                    to.add('*');
                }
                isFirst = false;
                spellFactor(base.primes[i], powers[i], to);
            }
            if (isFirst) {
                to.add('1');
            }
        }

        private static void spellFactor(int p, int power, Bytes to) {
            if (p >= 10) {
                to.add('0' + p / 10);
            }
            to.add('0' + p % 10);
            if (power == 1) {
                return;
            }
            to.add('^');
            if (power < 0) {
                to.add('-');
            }
            to.add('0' + Math.abs(power));
        }
    }

    /** x as a by b and 1 less x as c by b, so that a and c make b: each FORM is one of the three by another one. */
    private static final class Split {
        long a;
        long b = 1;
        long c = 1;

        void set(long above, long below) {
            a = above;
            b = below;
            c = below - above;
        }

        long formAbove(int k) {
            return rawBelow(k) < 0 ? -rawAbove(k) : rawAbove(k);
        }

        long formBelow(int k) {
            return Math.abs(rawBelow(k));
        }

        private long rawAbove(int k) {
            switch (k) {
                case 0:
                    return a;
                case 1:
                    return c;
                case 4:
                    return -c;
                case 5:
                    return -a;
                default:
                    return b;
            }
        }

        private long rawBelow(int k) {
            switch (k) {
                case 2:
                case 4:
                    return a;
                case 3:
                case 5:
                    return c;
                default:
                    return b;
            }
        }

        int unlikeForms() {
            int unlike = 0;
            for (int k = 0; k < ALL_FORMS; k++) {
                if (!isLikeAnEarlierOne(k)) {
                    unlike++;
                }
            }
            return unlike;
        }

        private boolean isLikeAnEarlierOne(int k) {
            for (int j = 0; j < k; j++) {
                if (formAbove(j) == formAbove(k) && formBelow(j) == formBelow(k)) {
                    return true;
                }
            }
            return false;
        }
    }

    /** ANSWERS in their order, each with the number of its GROUP. */
    private static final class Answers {
        final long[] above = new long[MOST_ANSWERS];
        final long[] below = new long[MOST_ANSWERS];
        final int[] group = new int[MOST_ANSWERS];
        final int[] newNumbers = new int[MOST_GROUPS];
        final Split split = new Split();
        int size;
        int groupCount;

        boolean has(int i) {
            return i >= 0 && i < size;
        }

        long told(int i, int part) {
            if (!has(i)) {
                return VOID;
            }
            return part == 0 ? above[i] : below[i];
        }

        void fill(Base base) {
            size = 0;
            groupCount = 0;
            spread(this, base, 0, 1, 1);
            numberGroups();
        }

        private static void spread(Answers to, Base base, int level, long above, long below) {
            if (level >= base.size) {
                to.tryGroupOf(base, above, below);
                return;
            }
            int p = base.primes[level];
            long up = above;
            spread(to, base, level + 1, above, below);
            long down = below;
            for (int power = 1; power <= base.boxes[level]; power++) {
                up *= p;
                down *= p;
                spread(to, base, level + 1, up, below);
                spread(to, base, level + 1, above, down);
            }
        }

        /**
         * Of each GROUP just one is above 0 and not above a half, so only such ones are looked at.
         * If that one is an ANSWER, its FORMS are too: they have the same three numbers above and
         * below their lines.
         */
        private void tryGroupOf(Base base, long x, long line) {
            if (2 * x > line || !base.boxesHold(line - x) || groupCount >= MOST_GROUPS) {
                return;
            }
            split.set(x, line);
            for (int k = 0; k < ALL_FORMS; k++) {
                insert(split.formAbove(k), split.formBelow(k), groupCount);
            }
            groupCount++;
        }

        private void insert(long up, long down, int ofGroup) {
            int place = placeFor(up, down);
            if (size >= MOST_ANSWERS || isAt(place, up, down)) {
                return;
            }
            System.arraycopy(above, place, above, place + 1, size - place);
            System.arraycopy(below, place, below, place + 1, size - place);
            System.arraycopy(group, place, group, place + 1, size - place);
            above[place] = up;
            below[place] = down;
            group[place] = ofGroup;
            size++;
        }

        /** How many ANSWERS are ahead of that fraction. */
        private int placeFor(long up, long down) {
            int low = 0;
            int high = size;
            for (int step = 0; step < MOST_ANSWERS && low < high; step++) {
                int middle = (low + high) / 2;
                if (below[middle] < down || below[middle] == down && above[middle] < up) {
                    low = middle + 1;
                } else {
                    high = middle;
                }
            }
            return low;
        }

        private boolean isAt(int place, long up, long down) {
            return place < size && above[place] == up && below[place] == down;
        }

        int numberOf(Unit unit, Base base) {
            long up = unit.above(base);
            long down = unit.below(base);
            int place = placeFor(up, down);
            return isAt(place, up, down) ? place : -1;
        }

        private void numberGroups() {
            Arrays.fill(newNumbers, -1);
            int next = 0;
            for (int i = 0; i < size; i++) {
                int old = group[i];
                if (newNumbers[old] < 0) {
                    newNumbers[old] = next;
                    next++;
                }
                group[i] = newNumbers[old];
            }
        }

        int sizeOfGroup(int g) {
            int members = 0;
            for (int i = 0; i < size; i++) {
                if (group[i] == g) {
                    members++;
                }
            }
            return members;
        }

        int firstOfGroup(int g) {
            for (int i = 0; i < size; i++) {
                if (group[i] == g) {
                    return i;
                }
            }
            return NONE;
        }
    }

    /** SIEVES, the one asked for last at the end. */
    private static final class Sieves {
        final int[] row = new int[MOST_SIEVES];
        int size;

        void ask(int q) {
            remove(q);
            if (size >= MOST_SIEVES) {
                removeAt(0);
            }
            row[size] = q;
            size++;
        }

        boolean remove(int q) {
            for (int i = 0; i < size; i++) {
                if (row[i] == q) {
                    removeAt(i);
                    return true;
                }
            }
            return false;
        }

        private void removeAt(int place) {
            for (int i = place; i < size - 1; i++) {
                row[i] = row[i + 1];
            }
            size--;
        }

        void copy(Sieves from) {
            System.arraycopy(from.row, 0, row, 0, MOST_SIEVES);
            size = from.size;
        }
    }

    /** What PRIMES and -1 make modulo an odd prime q that is no PRIME. */
    private static final class Modulus {
        final boolean[] isReached = new boolean[GREATEST_SIEVE];
        final int[] reached = new int[GREATEST_SIEVE];
        int q = LEAST_SIEVE;
        int size;

        void fill(Base base, int modulo) {
            q = Math.min(Math.max(modulo, LEAST_SIEVE), GREATEST_SIEVE);
            for (int r = 0; r < q; r++) {
                isReached[r] = false;
            }
            size = 0;
            note(1);
            // POWERS below 0 bring nothing new: modulo q each of them is a power above 0, too.
            for (int i = 0; i < size && i < q; i++) {
                note(q - reached[i]);
                for (int k = 0; k < base.size; k++) {
                    note(reached[i] * base.primes[k] % q);
                }
            }
        }

        private void note(int residue) {
            if (residue < 0 || residue >= q || isReached[residue]) {
                return;
            }
            isReached[residue] = true;
            reached[size] = residue;
            size++;
        }

        int residueOf(Unit unit, Base base) {
            int residue = unit.sign < 0 ? q - 1 : 1;
            for (int i = 0; i < base.size; i++) {
                residue = residue * powerOfPrime(base.primes[i], unit.powers[i]) % q;
            }
            return residue;
        }

        /** A POWER below 0 is met by the power above 0 that is q less 1, or more of these, beyond it. */
        int powerOfPrime(int p, int power) {
            int steps = Math.floorMod(power, q - 1);
            int residue = 1;
            for (int n = 0; n < steps; n++) {
                residue = residue * p % q;
            }
            return residue;
        }

        boolean letsPass(int residue) {
            return isReached[Math.floorMod(1 - residue, q)];
        }
    }

    /** Counts the UNITS IN THE BOX that PASS all SIEVES. */
    private static final class Sifter {
        final Modulus[] moduli = new Modulus[MOST_SIEVES];
        // Row n: modulo each SIEVE, the product of the first n PRIMES to the POWERS at hand.
        final int[][] products = new int[MOST_PRIMES + 1][MOST_SIEVES];
        int used;

        Sifter() {
            for (int s = 0; s < MOST_SIEVES; s++) {
                moduli[s] = new Modulus();
            }
        }

        int sift(Base base, Sieves sieves) {
            used = sieves.size;
            for (int s = 0; s < used; s++) {
                moduli[s].fill(base, sieves.row[s]);
                products[0][s] = 1;
            }
            return passing(this, base, 0);
        }

        private static int passing(Sifter by, Base base, int level) {
            if (level >= base.size) {
                return by.passingSigns(by.products[level]);
            }
            int p = base.primes[level];
            int box = base.boxes[level];
            int[] before = by.products[level];
            int[] product = by.products[level + 1];
            for (int s = 0; s < by.used; s++) {
                product[s] = before[s] * by.moduli[s].powerOfPrime(p, -box) % by.moduli[s].q;
            }
            int total = 0;
            for (int power = -box; power <= box; power++) {
                total += passing(by, base, level + 1);
                for (int s = 0; s < by.used; s++) {
                    product[s] = product[s] * p % by.moduli[s].q;
                }
            }
            return total;
        }

        private int passingSigns(int[] product) {
            int signs = 2;
            if (isCaught(product, 1)) {
                signs--;
            }
            if (isCaught(product, -1)) {
                signs--;
            }
            return signs;
        }

        private boolean isCaught(int[] product, int sign) {
            for (int s = 0; s < used; s++) {
                if (!moduli[s].letsPass(sign * product[s])) {
                    return true;
                }
            }
            return false;
        }
    }

    /** A row of bytes with an end. */
    private static final class Bytes {
        final int[] row;
        int size;

        Bytes(int most) {
            row = new int[Math.max(most, 0)];
        }

        boolean add(int b) {
            if (size >= row.length) {
                return false;
            }
            row[size] = b;
            size++;
            return true;
        }

        /** Behind the end it is 0, which no byte is. */
        int at(int i) {
            return i >= 0 && i < size ? row[i] : 0;
        }

        void clear() {
            size = 0;
        }
    }

    /** Reads a TEXT; place is where it stands, and so the FAULT if it goes no further. */
    private static final class Reader {
        final Unit unit = new Unit();
        int place;

        /** Whether all of it is a TEXT; the POWERS in unit may then still be beyond the range. */
        boolean scan(Bytes text, Base base) {
            unit.setOne();
            place = 0;
            if (text.at(0) == '-') {
                unit.sign = -1;
                place++;
            }
            if (text.at(place) == '1' && !isFigure(text.at(place + 1))) {
                place++;
                return place == text.size;
            }
            if (!scanFactor(text, base)) {
                return false;
            }
            for (int n = 0; n < MOST_BYTES && text.at(place) == '*'; n++) {
                place++;
                if (!scanFactor(text, base)) {
                    return false;
                }
            }
            return place == text.size;
        }

        private boolean scanFactor(Bytes text, Base base) {
            if (!isFigure(text.at(place)) || text.at(place) == '0') {
                return false;
            }
            int i = base.placeOf(scanNumber(text));
            if (i < 0) {
                return false;
            }
            if (text.at(place) != '^') {
                unit.powers[i]++;
                return true;
            }
            place++;
            return scanPower(text, i);
        }

        private int scanNumber(Bytes text) {
            int number = 0;
            for (int n = 0; n < 2 && isFigure(text.at(place)); n++) {
                number = 10 * number + text.at(place) - '0';
                place++;
            }
            return number;
        }

        private boolean scanPower(Bytes text, int i) {
            int turn = 1;
            if (text.at(place) == '-') {
                turn = -1;
                place++;
            }
            int power = text.at(place) - '0';
            if (power < 0 || power > GREATEST_POWER) {
                return false;
            }
            place++;
            unit.powers[i] += turn * power;
            return true;
        }

        private static boolean isFigure(int b) {
            return b >= '0' && b <= '9';
        }
    }

    /** LISTS; one whose size is -1 is missing. */
    private static final class Lists {
        final long[][] rows = new long[ALL_LISTS][MOST_LONGS];
        final int[] sizes = new int[ALL_LISTS];

        Lists() {
            Arrays.fill(sizes, -1);
        }

        void start(int list, int n) {
            Arrays.fill(rows[list], 0L);
            sizes[list] = n;
        }

        boolean isMissing(int list) {
            return sizes[list] < 0;
        }

        boolean has(int list, int i) {
            return i >= 0 && i < sizes[list];
        }

        int howManyThere() {
            int there = 0;
            for (int size : sizes) {
                if (size >= 0) {
                    there++;
                }
            }
            return there;
        }
    }

    /** All that THE IMAGE has: PRIMES, BOXES, SHELVES, SIEVES. */
    private static final class Desk {
        final Base base = new Base();
        final Unit[] shelves = new Unit[ALL_SHELVES];
        final Sieves sieves = new Sieves();

        Desk() {
            for (int shelf = 0; shelf < ALL_SHELVES; shelf++) {
                shelves[shelf] = new Unit();
            }
        }

        void addPrime(int p) {
            int place = base.insert(p);
            if (place < 0) {
                return;
            }
            for (Unit unit : shelves) {
                unit.insertPower(place);
            }
            sieves.remove(p);
        }

        void removePrime(int place) {
            base.removeAt(place);
            for (Unit unit : shelves) {
                unit.removePower(place);
            }
        }

        void copy(Desk from) {
            base.copy(from.base);
            sieves.copy(from.sieves);
            for (int shelf = 0; shelf < ALL_SHELVES; shelf++) {
                shelves[shelf].copy(from.shelves[shelf]);
            }
        }
    }
}
