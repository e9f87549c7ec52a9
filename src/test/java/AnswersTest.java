import java.util.ArrayList;
import java.util.HashMap;
import java.util.HashSet;
import java.util.List;
import java.util.Map;
import java.util.Set;
import java.util.TreeSet;

/** ANSWERS and GROUPS of every set of primes that the document takes, in full boxes and in others. */
public final class AnswersTest {
    private static final Checks C = new Checks("answers");
    private static final int[] ALL_PRIMES = {2, 3, 5, 7, 11, 13, 17, 19, 23, 29, 31};
    private static int seed = 1;
    private static int mostAnswers;
    private static int mostGroups;

    record Fraction(long above, long below) implements Comparable<Fraction> {
        @Override
        public int compareTo(Fraction o) {
            return below != o.below ? Long.compare(below, o.below) : Long.compare(above, o.above);
        }
    }

    public static void main(String[] args) {
        int sets = 0;
        for (int set = 0; set < 1 << ALL_PRIMES.length; set++) {
            int[] primes = primesOf(set);
            long together = 1;
            for (int p : primes) {
                together *= p;
            }
            if (primes.length <= 4 && together <= 1000) {
                sets++;
                compare(primes, 4, 4, 4, 4);
                compare(primes, draw(5), draw(5), draw(5), draw(5));
            }
        }
        C.holds("some sets", sets > 100);
        C.due("the most answers", mostAnswers, 261);
        C.due("the most groups", mostGroups, 44);
        C.end();
    }

    private static int draw(int m) {
        seed = seed * 1103515245 + 12345;
        return (seed >>> 16) % m;
    }

    private static int[] primesOf(int set) {
        int[] primes = new int[Integer.bitCount(set)];
        int n = 0;
        for (int k = 0; k < ALL_PRIMES.length; k++) {
            if ((set >> k & 1) == 1) {
                primes[n] = ALL_PRIMES[k];
                n++;
            }
        }
        return primes;
    }

    private static void compare(int[] primes, int... boxes) {
        SumsToOne x = Checks.of(primes);
        for (int i = 0; i < primes.length; i++) {
            x.box(i, boxes[i]);
        }
        List<Fraction> due = answers(primes, boxes);
        C.due("answers", x.answers(), due.size());
        List<Integer> groups = groups(due);
        int next = 0;
        for (int from = 0; from < due.size(); from += 10) {
            // Ten at once, as an object is used for at most 512 calls.
            C.due("film", x.film(0, from), Math.min(10, due.size() - from));
            SumsToOne y = Checks.of(primes);
            for (int i = 0; i < primes.length; i++) {
                y.box(i, boxes[i]);
            }
            for (int i = from; i < Math.min(from + 10, due.size()); i++) {
                C.due("above of " + i, y.answer(i, 0), due.get(i).above);
                C.due("below of " + i, y.answer(i, 1), due.get(i).below);
                C.due("group of " + i, y.groupOf(i), groups.get(i));
                y.take(i, 1);
                C.due("which", y.which(1), i);
                next = Math.max(next, groups.get(i) + 1);
            }
        }
        C.due("groups", x.groups(), next);
        mostAnswers = Math.max(mostAnswers, x.answers());
        mostGroups = Math.max(mostGroups, x.groups());
    }

    private static List<Fraction> answers(int[] primes, int[] boxes) {
        List<Fraction> units = new ArrayList<>(List.of(new Fraction(1, 1), new Fraction(-1, 1)));
        for (int i = 0; i < primes.length; i++) {
            List<Fraction> more = new ArrayList<>(units);
            long power = 1;
            for (int n = 1; n <= boxes[i]; n++) {
                power *= primes[i];
                for (Fraction f : units) {
                    more.add(new Fraction(f.above * power, f.below));
                    more.add(new Fraction(f.above, f.below * power));
                }
            }
            units = more;
        }
        Set<Fraction> all = new HashSet<>(units);
        Set<Fraction> pairs = new TreeSet<>();
        for (Fraction f : units) {
            // What is above and below has no common factor, and so have 1 less it above and below.
            if (all.contains(new Fraction(f.below - f.above, f.below))) {
                pairs.add(f);
            }
        }
        return new ArrayList<>(pairs);
    }

    /** By the three numbers, without signs, of which each FORM is one by another. */
    private static List<Integer> groups(List<Fraction> answers) {
        Map<Set<Long>, Integer> known = new HashMap<>();
        List<Integer> groups = new ArrayList<>();
        for (Fraction f : answers) {
            Set<Long> three = Set.copyOf(List.of(Math.abs(f.above), f.below, Math.abs(f.below - f.above)));
            known.putIfAbsent(three, known.size());
            groups.add(known.get(three));
        }
        return groups;
    }
}
