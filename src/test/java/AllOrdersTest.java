import java.util.NoSuchElementException;

/**
 * Promises 6 (EVER), 8 (RINGS), 18 to 24 and 30: every way in which four BOOKS can be AFTER one
 * another, held against the Oracle, with nothing and then with some of them FORGED, READ and had.
 */
final class AllOrdersTest {
    private static final int BOOKS = 4;
    private static final int PAIRS = BOOKS * (BOOKS - 1);

    private final SequelShelf x;
    private final Oracle o = new Oracle();

    private AllOrdersTest(String library) {
        x = Check.shelf(library);
        o.put(library.getBytes());
        Check.same("library()", o.library(), x.count(0) + x.count(1) + x.count(2));
    }

    public static void main(String[] args) {
        for (int pairs = 0; pairs < 1 << PAIRS; pairs++) {
            AllOrdersTest both = new AllOrdersTest(library(pairs));
            both.all();
            both.somethingHappens(pairs);
            both.all();
        }
        Check.finish();
    }

    private static String library(int pairs) {
        StringBuilder text = new StringBuilder("book a 7 1;book b 20 1;book c 3 1;book d 11 1;reader p 7;reader q 30;");
        int pair = 0;
        for (int later = 0; later < BOOKS; later++) {
            for (int earlier = 0; earlier < BOOKS; earlier++) {
                if (later != earlier) {
                    if ((pairs >> pair & 1) != 0) {
                        text.append("after ").append((char) ('a' + later)).append(' ')
                                .append((char) ('a' + earlier)).append(';');
                    }
                    pair++;
                }
            }
        }
        return text.toString();
    }

    /** Other acts for other LIBRARIES; most of them can be done. */
    private void somethingHappens(int pairs) {
        int first = pairs * 31 % 97;
        for (int i = 0; i < 3; i++) {
            int b = (first + 3 * i) % BOOKS;
            Check.same("forge", x.forge(b), o.forge(b));
            Check.same("lend", x.lend(0, b), o.lend(0, b));
            if (i != 2) {
                Check.same("days", x.days(4 - i), o.days(4 - i));
            }
            if ((first & 1 << i) != 0) {
                Check.same("mend", x.mend(b), o.mend(b));
            }
        }
        if (first % 5 == 0) {
            Check.same("back", x.back(0), o.back(0));
        }
    }

    private void all() {
        Check.same("now(7)", x.now(7), o.now(7));
        Check.same("cut()", x.cut(), o.cut());
        Check.same("cutting()", x.cutting(), o.cutting());
        for (int b = 0; b < BOOKS; b++) {
            Check.same("ring(" + b + ")", x.ring(b), o.ring(b));
            Check.same("deep(" + b + ")", x.deep(b), o.deep(b));
            Check.same("mean(" + b + ", 0)", mean(b, 0, true), mean(b, 0, false));
            Check.same("mean(" + b + ", 1)", mean(b, 1, true), mean(b, 1, false));
            for (int k = 0; k <= BOOKS; k++) {
                Check.same("ringAt(" + k + ") by " + b, x.ringAt(k), o.ringAt(k));
            }
        }
        for (int r = 0; r < 2; r++) {
            Check.same("LENT now", x.reader(r, 5), o.reader(r, 5));
            Check.same("EVER", x.reader(r, 6), o.reader(r, 6));
            for (int b = 0; b < BOOKS; b++) {
                Check.same("way(" + r + ", " + b + ")", x.way(r, b), o.way(r, b));
                for (int k = 0; k <= BOOKS; k++) {
                    Check.same("wayAt(" + k + ") by " + r + ", " + b, x.wayAt(k), o.wayAt(k));
                }
            }
        }
    }

    /** -77 for the exception, which is no mean. */
    private int mean(int b, int what, boolean ours) {
        try {
            return ours ? x.mean(b, what) : o.mean(b, what);
        } catch (NoSuchElementException e) {
            return -77;
        }
    }
}
