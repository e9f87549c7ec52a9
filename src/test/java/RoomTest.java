import java.lang.management.ManagementFactory;

/** All calls of a run share one room: an object is small, and its calls make nothing. */
public final class RoomTest {
    private static final com.sun.management.ThreadMXBean COUNTER = (com.sun.management.ThreadMXBean) ManagementFactory.getThreadMXBean();
    private static final long MOST_BYTES_OF_AN_OBJECT = 20_000;
    private static final long MOST_BYTES_OF_CALLS = 1_000;

    public static void main(String[] args) {
        Checks checks = new Checks("room");
        // The first objects pay for loading the classes, which is not theirs.
        for (int n = 0; n < 3; n++) {
            dearestRun(new SumsToOne());
            made();
        }
        long start = made();
        SumsToOne x = new SumsToOne();
        long object = made() - start;
        checks.holds("an object has " + object + " bytes", object > 0 && object <= MOST_BYTES_OF_AN_OBJECT);
        start = made();
        long sum = dearestRun(x);
        long calls = made() - start;
        checks.holds("the calls make " + calls + " bytes", calls <= MOST_BYTES_OF_CALLS);
        checks.holds("the run did something", sum != 0);
        checks.end();
    }

    private static long made() {
        return COUNTER.getThreadAllocatedBytes(Thread.currentThread().getId());
    }

    /** Some 500 calls, every one of the document's among them, with boxes that change so that nothing stays known. */
    private static long dearestRun(SumsToOne x) {
        long sum = x.prime(2) + x.prime(3) + x.prime(5) + x.prime(7);
        sum += x.sieve(97) + x.sieve(89) + x.sieve(83) + x.sieve(79);
        for (int n = 0; n < 10; n++) {
            sum += x.box(n % 4, 4) + x.answers() + x.groups() + x.left() + x.lots(50, n);
            sum += x.answer(n, 0) + x.take(n, 0) + x.which(0) + x.groupOf(n) + x.group(n, 0) + x.group(n, 1) + x.group(n, 2);
            sum += x.partner(0, 1) + x.form(0, n % 6, 2) + x.forms(2) + x.times(0, 1, 3) + x.over(0, 1, 3) + x.put(3, 0, 1) + x.sign(3, -1);
            sum += x.powerOf(3, 0) + x.value(3, 0) + x.height(3) + x.isIn(3) + x.primeOf(0) + x.boxOf(0);
            sum += x.sieveOf(0) + x.forget(97) + x.sieve(97) + x.order(0, 97) + x.reach(97) + x.passes(0, 97);
            sum += x.feed('2') + x.feed('^') + x.feed('6') + x.read(2) + x.feed('x') + x.wipe() + x.spelled(0, -1) + x.spelled(0, 0);
            sum += x.list(0, 20) + x.lay(0, 0, 1) + x.get(0, 0) + x.film(1, 0) + x.judge(1, 0) + x.image() + x.undo() + x.count(4);
        }
        return sum + x.drop(0);
    }
}
