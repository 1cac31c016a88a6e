/** Promises 28 and 29: AT ONCE. */
final class AtOnceTest {
    public static void main(String[] args) {
        SequelShelf x = new SequelShelf();
        Check.same("without READERS", x.atOnce(), 0);
        x = Check.shelf("book a 9 1;book b 9 1;book c 9 0;after b c;reader p 9;reader q 9;reader r 9;");
        Check.same("ahead of any", x.atOnceOf(0), -1);
        atOnce(x, 1, 0, -1, -1);
        x.forge(1);
        atOnce(x, 2, 0, 1, -1);
        x.buy(2);
        atOnce(x, 3, 0, 1, 2);
        x.lend(0, 2);
        atOnce(x, 2, -1, 0, 1);
        x.days(1);
        atOnce(x, 3, 0, 1, 2);
        // q has READ a and b alone may be left for him: p must leave it, though the least.
        x = Check.shelf("book a 9 1;book b 9 1;reader p 9;reader q 9;");
        x.lend(1, 1);
        x.days(1);
        atOnce(x, 2, 1, 0);
        x.lend(1, 0);
        x.days(1);
        atOnce(x, 1, 0, -1);
        longChain();
        lessThanAll();
        manyCopies();
        whatStays();
        for (int wants = 0; wants < 8 * 8 * 8 * 8; wants++) {
            fourReaders(wants);
        }
        Check.finish();
    }

    /** All that four READERS can still want of three BOOKS, with 0 to 2 copies of each. */
    private static void fourReaders(int wants) {
        SequelShelf x = Check.shelf("book a 1 1;book b 1 1;book c 1 1;"
                + "reader p 1;reader q 1;reader r 1;reader s 1;reader t 1;");
        for (int b = 0; b < 3; b++) {
            x.lend(0, b);
            x.days(1);
            for (int r = 1; r <= 4; r++) {
                if ((wants >> 3 * (r - 1) >> b & 1) == 0) {
                    x.tell(0, b, r);
                }
            }
        }
        int[] best = new int[5];
        for (int copies = 0; copies < 27; copies++) {
            int[] in = {copies % 3, copies / 3 % 3, copies / 9};
            for (int b = 0; b < 3; b++) {
                while (x.book(b, 1) < in[b] && x.buy(b) == 0) {
                    Check.yes("bought", x.book(b, 1) > 0);
                }
                while (x.book(b, 1) > in[b] && x.burn(b) == 0) {
                    Check.yes("burnt", x.book(b, 1) < 3);
                }
            }
            best[4] = -1;
            firstOfTheMost(wants, in, 0, 0, new int[4], best);
            atOnce(x, best[4], -1, best[0], best[1], best[2], best[3]);
        }
    }

    /** Goes through all ways in their order, NONE behind all; best holds the BOOKS, then how many. */
    private static void firstOfTheMost(int wants, int[] in, int r, int many, int[] way, int[] best) {
        if (r == 4) {
            if (many > best[4]) {
                System.arraycopy(way, 0, best, 0, 4);
                best[4] = many;
            }
            return;
        }
        for (int b = 0; b < 3; b++) {
            if ((wants >> 3 * r >> b & 1) != 0 && in[b] > 0) {
                in[b]--;
                way[r] = b;
                firstOfTheMost(wants, in, r + 1, many + 1, way, best);
                in[b]++;
            }
        }
        way[r] = -1;
        firstOfTheMost(wants, in, r + 1, many, way, best);
    }

    private static void atOnce(SequelShelf x, int many, int... books) {
        Check.same("atOnce()", x.atOnce(), many);
        for (int r = 0; r < books.length; r++) {
            Check.same("atOnceOf(" + r + ")", x.atOnceOf(r), books[r]);
        }
        for (int r : new int[] {-1, books.length, 6, Integer.MIN_VALUE, Integer.MAX_VALUE}) {
            Check.same("no such READER", x.atOnceOf(r), -1);
        }
    }

    /** The last one can have the first BOOK alone, so all others move on by one. */
    private static void longChain() {
        SequelShelf x = Check.shelf("book a 30 6;book b 30 6;book c 30 6;book d 30 6;book e 30 6;book f 30 6;"
                + "reader p 30;reader q 30;reader r 30;reader s 30;reader t 30;reader u 30;");
        // Reader k READS all but k and k + 1 of six; the last one all but the first.
        for (int r = 0; r < 6; r++) {
            for (int b = 0; b < 6; b++) {
                boolean free = r < 5 ? b == r || b == r + 1 : b == 0;
                if (!free) {
                    x.lend(r, b);
                    x.days(1);
                }
            }
        }
        for (int b = 0; b < 6; b++) {
            for (int i = 0; i < 5; i++) {
                x.burn(b);
            }
        }
        atOnce(x, 6, 1, 2, 3, 4, 5, 0);
    }

    private static void lessThanAll() {
        SequelShelf x = Check.shelf("book a 9 1;book b 9 1;reader p 9;reader q 9;reader r 9;reader s 9;");
        // All but s have READ b: p is first to get a, s gets b, and q and r get none.
        for (int r = 0; r < 3; r++) {
            x.lend(r, 1);
            x.days(1);
        }
        atOnce(x, 2, 0, -1, -1, 1);
        // p has READ all.
        x.lend(0, 0);
        x.days(1);
        atOnce(x, 2, -1, 0, -1, 1);
    }

    private static void manyCopies() {
        SequelShelf x = Check.shelf("book a 9 3;book b 9 9;reader p 9;reader q 9;reader r 9;reader s 9;reader t 9;");
        atOnce(x, 5, 0, 0, 0, 1, 1);
        x.lend(4, 1);
        x.days(1);
        atOnce(x, 5, 0, 0, 1, 1, 0);
        x.lend(0, 0);
        atOnce(x, 4, -1, 0, 1, 1, 0);
    }

    private static void whatStays() {
        SequelShelf x = Check.shelf("book a 9 3;reader p 9;reader q 9;");
        x.atOnce();
        x.lend(0, 0);
        Check.same("by the latest", x.atOnceOf(0), 0);
        Check.put(x, "book a 9 0;reader p 9;reader q 9;reader r 9;");
        x.library();
        Check.same("by the latest", x.atOnceOf(1), 0);
        Check.same("he was none then", x.atOnceOf(2), -1);
        Check.put(x, "");
        x.library();
        Check.same("he was one then", x.atOnceOf(0), 0);
        Check.same("he was one then", x.atOnceOf(1), 0);
        Check.same("he was none then", x.atOnceOf(2), -1);
        x.image(0);
        Check.put(x, "book a 9 3;book b 9 3;reader p 9;reader q 9;reader r 9;");
        x.library();
        x.lend(0, 0);
        x.atOnce();
        x.restore(0);
        Check.same("he was not one of them", x.atOnceOf(0), -1);
        Check.same("he was one then", x.atOnceOf(2), 0);
        Check.same("no such one", x.atOnceOf(3), -1);
        x.atOnce();
        Check.same("by the latest", x.atOnceOf(0), -1);
        Check.same("by the latest", x.atOnceOf(2), -1);
    }
}
