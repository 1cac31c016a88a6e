/** Promises 33 and 34: DAYS by draws. The draws were worked out apart from the class. */
final class DrawsTest {
    private static final String LIBRARY = "book a 10 1;book b 5 1;book c 8 2;after b a;"
            + "reader p 5;reader q 3;reader r 9;fine 4;";

    public static void main(String[] args) {
        drawn();
        oneDay();
        returned();
        oneBook();
        withoutBooks();
        withoutBooksAnyMore();
        notAsTold();
        odds();
        oneSeed();
        Check.finish();
    }

    private static void read(SequelShelf x, int... sets) {
        for (int r = 0; r < sets.length; r++) {
            Check.same("READ by " + r, x.reader(r, 4), sets[r]);
        }
    }

    private static void drawn() {
        SequelShelf x = Check.shelf(LIBRARY);
        Check.same("drawn(2, 1)", x.drawn(2, 1), 2);
        Check.same("q was lent a", x.reader(1, 1), 0);
        Check.same("q's left", x.reader(1, 2), 7);
        read(x, 0, 0, 4);
        Check.same("undo()", x.undo(), 0);
        Check.same("drawn(7, 1)", x.drawn(7, 1), 7);
        read(x, 4, 1, 4);
        Check.same("r told p of c", x.book(2, 5), 5);
        x.undo();
        Check.same("drawn(10, 1)", x.drawn(10, 1), 10);
        Check.same("DAY", x.now(0), 10);
        read(x, 5, 5, 4);
        x.undo();
        Check.same("drawn(10, -5)", x.drawn(10, -5), 10);
        read(x, 4, 5, 4);
        x.undo();
        Check.same("drawn(3, 2026)", x.drawn(3, 2026), 3);
        read(x, 4, 4, 1);
        x.undo();
        Check.same("drawn(10, 2026)", x.drawn(10, 2026), 10);
        read(x, 4, 4, 7);
    }

    /** The least and the most DAYS of a call; the draws of seeds that are not above 0. */
    private static void oneDay() {
        SequelShelf x = Check.shelf(LIBRARY);
        Check.same("drawn(1, 4)", x.drawn(1, 4), 1);
        Check.text("p", Check.slip(x, 0), "p has c 3");
        Check.text("q", Check.slip(x, 1), "q has c 5");
        Check.text("r", Check.slip(x, 2), "r idle");
        Check.same("DAY", x.now(0), 1);
        x.undo();
        Check.same("drawn(1, 0)", x.drawn(1, 0), 1);
        Check.text("p", Check.slip(x, 0), "p has a 5");
        Check.text("q", Check.slip(x, 1), "q idle");
        x.undo();
        Check.same("drawn(1, -1)", x.drawn(1, -1), 1);
        Check.text("p", Check.slip(x, 0), "p has a 5");
        x.undo();
        Check.same("drawn(1, 7)", x.drawn(1, 7), 1);
        Check.text("q", Check.slip(x, 1), "q has c 5");
        x.undo();
        Check.same("drawn(60, 5)", x.drawn(60, 5), 60);
        read(x, 7, 7, 7);
        Check.same("DAY", x.now(0), 60);
        Check.same("BOOKS READ", x.now(5), 9);
        Check.same("pages READ", x.now(6), 79);
    }

    private static void withoutBooks() {
        SequelShelf x = Check.shelf("reader p 5;");
        Check.same("drawn(60, 7)", x.drawn(60, 7), 60);
        Check.same("DAY", x.now(0), 60);
        x = Check.shelf("book a 1 1;");
        Check.same("drawn(60, 7)", x.drawn(60, 7), 60);
        Check.same("in", x.book(0, 1), 1);
    }

    /** One BOOK is enough for draws, one READER to TELL nobody. */
    private static void oneBook() {
        SequelShelf x = Check.shelf("book a 5 1;reader p 2;reader q 3;fine 4;");
        Check.same("drawn(3, 1)", x.drawn(3, 1), 3);
        Check.text("p", Check.slip(x, 0), "p has a 3");
        read(x, 0, 1);
        Check.same("pages READ", x.now(6), 7);
        x.undo();
        Check.same("drawn(3, 3)", x.drawn(3, 3), 3);
        read(x, 1, 0);
        Check.same("pages READ", x.now(6), 5);
        x = Check.shelf("book a 5 1;reader p 2;");
        Check.same("drawn(60, 1)", x.drawn(60, 1), 60);
        read(x, 1);
        Check.same("BOOKS READ", x.now(5), 1);
    }

    /** "no BOOKS: no draws", also where there were BOOKS in the LIBRARY ahead. */
    private static void withoutBooksAnyMore() {
        SequelShelf x = Check.shelf(LIBRARY);
        x.drawn(20, 1);
        Check.put(x, "reader p 5;reader q 5;");
        x.library();
        Check.same("drawn(60, 1)", x.drawn(60, 1), 60);
        Check.same("out", x.now(1), 0);
        Check.same("BOOKS READ", x.now(5), 0);
        Check.same("pages READ", x.now(6), 0);
        Check.same("READ by somebody", x.now(3), 0);
    }

    private static void notAsTold() {
        SequelShelf x = Check.shelf(LIBRARY);
        for (int n : new int[] {0, -1, 61, Integer.MIN_VALUE, Integer.MAX_VALUE}) {
            Check.same("drawn", x.drawn(n, 1), -1);
        }
        Check.same("nothing was done", x.undo(), -1);
        for (int i = 0; i < 6; i++) {
            x.drawn(60, i);
        }
        Check.same("the last ones", x.drawn(60, 6), 40);
        Check.same("none is left", x.drawn(60, 6), 0);
        Check.same("seven can be undone", x.undo(), 6);
    }

    private static void odds() {
        SequelShelf x = Check.shelf(LIBRARY);
        Check.same("odds", x.odds(0, 0, 30, 1), 30);
        Check.same("odds", x.odds(0, 1, 30, 1), 25);
        Check.same("odds", x.odds(1, 2, 30, -10), 29);
        Check.same("the seeds wrap", x.odds(2, 1, 30, 2147483640), 24);
        Check.same("odds", x.odds(1, 1, 7, 99), 3);
        Check.same("all stays", x.now(0), 0);
        Check.same("nothing to undo", x.undo(), -1);
        Check.same("n", x.odds(0, 0, 0, 1), -1);
        Check.same("n", x.odds(0, 0, 31, 1), -1);
        Check.same("n", x.odds(0, 0, Integer.MIN_VALUE, 1), -1);
        Check.same("no such READER", x.odds(3, 0, 1, 1), -1);
        Check.same("no such READER", x.odds(-1, 0, 1, 1), -1);
        Check.same("no such BOOK", x.odds(0, 3, 1, 1), -1);
        Check.same("no such BOOK", x.odds(0, -1, 1, 1), -1);
        x.lend(0, 0);
        x.days(2);
        Check.same("READ already", x.odds(0, 0, 30, 5), 30);
        for (int i = 0; i < 7; i++) {
            x.days(60);
        }
        Check.same("no DAYS are left", x.odds(1, 2, 30, 5), 0);
        Check.same("no DAYS are left", x.odds(0, 0, 30, 5), 30);
    }

    /** One seed is the least; many are as many ones. */
    private static void oneSeed() {
        SequelShelf x = Check.shelf(LIBRARY);
        int[] due = {1, 0, 1, 0, 1, 0, 0, 1, 1, 1};
        int sum = 0;
        for (int i = 0; i < due.length; i++) {
            Check.same("odds(1, 1, 1, " + (99 + i) + ")", x.odds(1, 1, 1, 99 + i), due[i]);
            sum += due[i];
            Check.same("odds(1, 1, " + (i + 1) + ", 99)", x.odds(1, 1, i + 1, 99), sum);
        }
        Check.same("odds by 2147483640", x.odds(2, 1, 1, 2147483640), 0);
        Check.same("odds by the most", x.odds(2, 1, 1, Integer.MAX_VALUE), 1);
        Check.same("odds by the least", x.odds(2, 1, 1, Integer.MIN_VALUE), 0);
        Check.same("the seed behind the most is the least", x.odds(2, 1, 2, Integer.MAX_VALUE), 1);
    }

    private static void returned() {
        SequelShelf x = Check.shelf("book a 90 1;book b 99 1;reader p 2;reader q 1;fine 30;");
        Check.same("drawn(20, 6)", x.drawn(20, 6), 20);
        Check.text("p", Check.slip(x, 0), "p has b 99 owes 34");
        Check.text("q", Check.slip(x, 1), "q has a 90 owes 17");
        x.undo();
        Check.same("drawn(20, 28)", x.drawn(20, 28), 20);
        Check.text("p", Check.slip(x, 0), "p has b 59");
        Check.text("q", Check.slip(x, 1), "q idle owes 73");
    }
}
