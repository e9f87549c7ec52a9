import java.util.regex.Matcher;
import java.util.regex.Pattern;

/** All texts of few bytes, beside patterns that say what a TEXT is and what a TEXT may begin with. */
public final class TextsTest {
    private static final Checks C = new Checks("texts");
    private static final int MOST_CALLS = 500;

    private final int[] primes;
    private final Pattern whole;
    private final Pattern beginning;
    private final Pattern factor;
    private SumsToOne x;
    private int calls;

    private TextsTest(int... primes) {
        this.primes = primes;
        // A pattern that nothing fits, where there are no PRIMES.
        StringBuilder prime = new StringBuilder("(?:[^\\s\\S]");
        for (int p : primes) {
            prime.append('|').append(p);
        }
        prime.append(')');
        String one = prime + "(?:\\^-?[0-6])?";
        whole = Pattern.compile("-?(?:1|" + one + "(?:\\*" + one + ")*)");
        // A number that is no PRIME is told by the place behind it, so it may still end there.
        beginning = Pattern.compile("-?(?:(?:" + one + "\\*)*(?:[1-9][0-9]?|" + prime + "\\^-?[0-6]?)?)?");
        factor = Pattern.compile("([0-9]+)(?:\\^(-?[0-6]))?");
        renew();
    }

    public static void main(String[] args) {
        new TextsTest(2, 3, 11, 13).all("-*^0123467", 5);
        new TextsTest(2, 31).all("-*^123 ", 5);
        new TextsTest(19).all("-*^196", 6);
        new TextsTest(7, 5).all("-*^5067", 5);
        new TextsTest().all("-*^0123456789 ~", 3);
        eachByte();
        C.end();
    }

    private void renew() {
        x = Checks.of(primes);
        x.put(2, 0, 5);
        calls = primes.length + 1;
    }

    private void all(String letters, int most) {
        long how = 1;
        for (int length = 0; length <= most; length++) {
            for (long n = 0; n < how; n++) {
                StringBuilder text = new StringBuilder();
                for (long rest = n, i = 0; i < length; i++, rest /= letters.length()) {
                    text.append(letters.charAt((int) (rest % letters.length())));
                }
                one(text.toString());
            }
            how *= letters.length();
        }
    }

    private void one(String text) {
        if (calls + text.length() + 6 > MOST_CALLS) {
            renew();
        }
        long above = x.value(2, 0);
        long below = x.value(2, 1);
        int got = Checks.read(x, 2, text);
        boolean isText = whole.matcher(text).matches();
        long[] due = isText ? fraction(text) : null;
        C.due("read " + text, got, !isText ? -100 - fault(text) : due == null ? -9 : 1);
        C.due("above of " + text, x.value(2, 0), due == null ? above : due[0]);
        C.due("below of " + text, x.value(2, 1), due == null ? below : due[1]);
        C.due("the tape is empty behind " + text, x.count(2), 0);
        calls += text.length() + 6;
    }

    /** The first byte with which no TEXT goes on; the length, if it ends too early. */
    private int fault(String text) {
        int place = 0;
        while (place < text.length() && beginning.matcher(text.substring(0, place + 1)).matches()) {
            place++;
        }
        return place;
    }

    /** Null, if a power is beyond -6 .. 6 at last. */
    private long[] fraction(String text) {
        long[] parts = {text.startsWith("-") ? -1 : 1, 1};
        int[] powers = new int[100];
        Matcher m = factor.matcher(text);
        while (m.find()) {
            powers[Integer.parseInt(m.group(1))] += m.group(2) == null ? 1 : Integer.parseInt(m.group(2));
        }
        for (int p : primes) {
            if (Math.abs(powers[p]) > 6) {
                return null;
            }
            for (int n = 0; n < Math.abs(powers[p]); n++) {
                parts[powers[p] > 0 ? 0 : 1] *= p;
            }
        }
        return parts;
    }

    /** Each byte that THE TAPE holds, at each place of a TEXT where another one could stand. */
    private static void eachByte() {
        TextsTest of = new TextsTest(2, 3, 11, 13);
        for (String text : new String[] {"?", "-?", "1?", "-1?", "2?", "11?", "13?", "2*?", "2^?", "2^-?", "2^3?", "2^-3?", "2*1?", "?2", "2?3", "13^?1*2", "-2*3?*11"}) {
            for (char b = 32; b <= 126; b++) {
                of.one(text.replace('?', b));
            }
        }
    }
}
