/** Counts answers that are not as due, and makes objects in a told state. */
final class Checks {
    private final String about;
    private int made;
    private int wrong;

    Checks(String about) {
        this.about = about;
    }

    void due(String call, long got, long want) {
        made++;
        if (got != want) {
            wrong++;
            System.out.println(about + ": " + call + " answered " + got + ", due is " + want);
        }
    }

    void holds(String what, boolean isSo) {
        due(what, isSo ? 1 : 0, 1);
    }

    void end() {
        System.out.println(about + ": " + made + " checks, " + wrong + " wrong");
        if (wrong != 0 || made == 0) {
            System.exit(1);
        }
    }

    static SumsToOne of(int... primes) {
        SumsToOne x = new SumsToOne();
        for (int p : primes) {
            x.prime(p);
        }
        return x;
    }

    static void feed(SumsToOne x, String text) {
        for (int i = 0; i < text.length(); i++) {
            x.feed(text.charAt(i));
        }
    }

    static int read(SumsToOne x, int shelf, String text) {
        feed(x, text);
        return x.read(shelf);
    }

    static String spelled(SumsToOne x, int shelf) {
        StringBuilder text = new StringBuilder();
        int size = x.spelled(shelf, -1);
        for (int i = 0; i < size; i++) {
            text.append((char) x.spelled(shelf, i));
        }
        return text.toString();
    }
}
