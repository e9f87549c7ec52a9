import java.util.ArrayList;
import java.util.List;

/** Makes objects in told states, and tells all that calls can tell of one. */
final class Watch {
    interface Maker {
        SumsToOne make();
    }

    interface Call {
        long of(SumsToOne x);
    }

    private final Checks checks;

    Watch(Checks checks) {
        this.checks = checks;
    }

    /** The answer is the one that is due, and behind it the object is as one that was never called so. */
    void refused(String name, Maker maker, Call call, long due) {
        SumsToOne x = maker.make();
        checks.due(name, call.of(x), due);
        changesNothing(name, maker, x);
    }

    /** A call that asks: it is answered alike twice, and nothing has changed. */
    void asked(String name, Maker maker, Call call, long due) {
        SumsToOne x = maker.make();
        checks.due(name, call.of(x), due);
        checks.due(name + " again", call.of(x), due);
        changesNothing(name, maker, x);
    }

    private void changesNothing(String name, Maker maker, SumsToOne x) {
        List<String> as = seen(x);
        List<String> due = seen(maker.make());
        checks.due(name + ": as much can be seen", as.size(), due.size());
        for (int i = 0; i < Math.min(as.size(), due.size()); i++) {
            checks.holds(name + " changes nothing: " + as.get(i) + ", was " + due.get(i), as.get(i).equals(due.get(i)));
        }
    }

    /** Some 230 calls. The last of them read THE TAPE and undo, so the object is used up. */
    static List<String> seen(SumsToOne x) {
        List<String> all = new ArrayList<>();
        seeDesk(x, all);
        for (int what = 2; what <= 4; what++) {
            all.add("count(" + what + ") = " + x.count(what));
        }
        all.add("answers() = " + x.answers() + ", groups() = " + x.groups() + ", left() = " + x.left());
        for (int list = 0; list < 3; list++) {
            all.add("list " + list + " is missing: " + (x.judge(list, 0) == SumsToOne.MISSING));
            for (int i = 0; i < 20; i++) {
                all.add("get(" + list + ", " + i + ") = " + x.get(list, i));
            }
        }
        all.add("read(3) = " + x.read(3) + " of " + x.value(3, 0) + " by " + x.value(3, 1));
        all.add("undo() = " + x.undo());
        seeDesk(x, all);
        return all;
    }

    private static void seeDesk(SumsToOne x, List<String> all) {
        for (int i = 0; i < 4; i++) {
            all.add("primeOf(" + i + ") = " + x.primeOf(i) + ", boxOf = " + x.boxOf(i) + ", sieveOf = " + x.sieveOf(i));
        }
        for (int shelf = 0; shelf < 4; shelf++) {
            all.add("value(" + shelf + ", 0) = " + x.value(shelf, 0) + ", value(" + shelf + ", 1) = " + x.value(shelf, 1));
            for (int i = 0; i < 4; i++) {
                all.add("powerOf(" + shelf + ", " + i + ") = " + x.powerOf(shelf, i));
            }
        }
    }

    static SumsToOne empty() {
        return new SumsToOne();
    }

    /** Something of each kind, with room for more, and an image that is otherwise. 15 ANSWERS in 3 GROUPS. */
    static SumsToOne rich() {
        SumsToOne x = Checks.of(5, 7);
        x.box(1, 0);
        Checks.read(x, 1, "-5^2*7^-3");
        x.sieve(13);
        x.sieve(89);
        x.image();
        x.drop(1);
        x.drop(0);
        x.prime(3);
        x.prime(2);
        x.prime(31);
        x.box(2, 0);
        Checks.read(x, 0, "-2^3");
        Checks.read(x, 1, "1");
        Checks.read(x, 2, "2^6*3^-6*31^2");
        Checks.read(x, 3, "-2*3^-1");
        x.sieve(5);
        x.forget(13);
        x.list(0, 3);
        x.lay(0, 0, -3);
        x.lay(0, 1, 1);
        x.lay(0, 2, 77);
        x.list(2, 0);
        Checks.feed(x, "-2^3*31");
        return x;
    }

    /** All is full: PRIMES, BOXES, SIEVES, THE TAPE, LISTS. 261 ANSWERS in 44 GROUPS. */
    static SumsToOne full() {
        SumsToOne x = Checks.of(7, 5, 3, 2);
        for (int i = 0; i < 4; i++) {
            x.box(i, 4);
            Checks.read(x, i, "-2^6*3^-6*5^6*7^-" + i);
        }
        for (int q : new int[] {97, 11, 89, 13}) {
            x.sieve(q);
        }
        for (int list = 0; list < 3; list++) {
            x.list(list, 20);
            x.lay(list, 19, Long.MAX_VALUE - list);
        }
        x.image();
        x.put(1, 1, 2);
        for (int n = 0; n < 60; n++) {
            x.feed(n == 59 ? '2' : n % 2 == 0 ? '2' : '*');
        }
        return x;
    }
}
