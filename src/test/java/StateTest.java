/** Promises 6 to 8: what is so of a READER, of a BOOK, and of all. */
final class StateTest {
    public static void main(String[] args) {
        reader();
        ever();
        book();
        now();
        Check.finish();
    }

    private static void reader() {
        SequelShelf x = Check.shelf("book a 10 1;book b 20 1;book c 5 0;after b a;"
                + "reader p 4;reader q 30;fine 6;");
        Check.same("PACE", x.reader(0, 0), 4);
        Check.same("PACE", x.reader(1, 0), 30);
        Check.same("no BOOK", x.reader(0, 1), -1);
        Check.same("nothing left", x.reader(0, 2), 0);
        Check.same("no fines", x.reader(0, 3), 0);
        Check.same("nothing READ", x.reader(0, 4), 0);
        Check.same("b is AFTER a, c has no copy", x.reader(0, 5), 1);
        Check.same("copies no matter", x.reader(0, 6), 7);
        x.lend(0, 0);
        x.days(1);
        Check.same("BOOK", x.reader(0, 1), 0);
        Check.same("left", x.reader(0, 2), 6);
        Check.same("he has one", x.reader(0, 5), 0);
        Check.same("no copy in", x.reader(1, 5), 0);
        x.back(0);
        Check.same("fines", x.reader(0, 3), 6);
        Check.same("left of none", x.reader(0, 2), 0);
        x.lend(1, 0);
        x.days(1);
        Check.same("READ", x.reader(1, 4), 1);
        Check.same("b now, a no more", x.reader(1, 5), 2);
        Check.same("fines go", x.reader(0, 3), 2);
        Check.readerThrows(x, -1, 0);
        Check.readerThrows(x, 2, 0);
        Check.readerThrows(x, Integer.MAX_VALUE, 0);
        Check.readerThrows(x, Integer.MIN_VALUE, 0);
        Check.readerThrows(x, 0, -1);
        Check.readerThrows(x, 0, 7);
        Check.readerThrows(x, 0, Integer.MIN_VALUE);
        Check.readerThrows(new SequelShelf(), 0, 0);
    }

    private static void ever() {
        // c and d are a RING, e is AFTER it, f AFTER e; a and b stand before.
        SequelShelf x = Check.shelf("book a 1 1;book b 1 1;book c 1 1;book d 1 1;book e 1 1;book f 1 1;"
                + "after b a;after c b;after c d;after d c;after e d;after f e;reader p 1;reader q 1;");
        Check.same("EVER", x.reader(0, 6), 0b000011);
        x.forge(3);
        Check.same("with d FORGED", x.reader(0, 6), 0b111111);
        x.lend(0, 3);
        x.mend(3);
        Check.same("he has d", x.reader(0, 6), 0b111111);
        Check.same("the other one has not", x.reader(1, 6), 0b000011);
        x.days(1);
        Check.same("he has READ d", x.reader(0, 6), 0b111111);
        Check.same("could be LENT", x.reader(0, 5), 0b010001);
    }

    private static void book() {
        SequelShelf x = Check.shelf("book a 10 3;book b 20 0;book c 7 9;after b a;after b c;after c b;"
                + "reader p 10;reader q 3;reader r 10;");
        Check.same("PAGES", x.book(1, 0), 20);
        Check.same("in", x.book(0, 1), 3);
        Check.same("in", x.book(1, 1), 0);
        Check.same("in", x.book(2, 1), 9);
        Check.same("out", x.book(0, 2), 0);
        Check.same("FORGED", x.book(1, 3), 0);
        Check.same("AFTER", x.book(1, 4), 5);
        Check.same("AFTER", x.book(2, 4), 2);
        Check.same("AFTER", x.book(0, 4), 0);
        x.forge(1);
        Check.same("FORGED", x.book(1, 3), 1);
        Check.same("AFTER as told", x.book(1, 4), 5);
        x.lend(0, 0);
        x.lend(1, 0);
        x.lend(2, 0);
        Check.same("in", x.book(0, 1), 0);
        Check.same("out", x.book(0, 2), 3);
        x.days(1);
        Check.same("in", x.book(0, 1), 2);
        Check.same("out", x.book(0, 2), 1);
        Check.same("READ by", x.book(0, 5), 5);
        for (int what : new int[] {-1, 6, Integer.MIN_VALUE, Integer.MAX_VALUE}) {
            Check.same("no such what", x.book(0, what), -1);
        }
        for (int b : new int[] {-1, 3, 8, Integer.MIN_VALUE, Integer.MAX_VALUE}) {
            Check.same("no such BOOK", x.book(b, 0), -1);
        }
    }

    private static void now() {
        SequelShelf x = Check.shelf("book a 10 2;book b 6 1;book c 6 1;after b c;after c b;"
                + "reader p 4;reader q 10;reader r 10;fine 7;");
        Check.same("RINGS", x.now(7), 6);
        x.forge(1);
        Check.same("no RINGS", x.now(7), 0);
        Check.same("FORGED", x.now(2), 2);
        x.lend(0, 0);
        x.lend(1, 0);
        x.lend(2, 1);
        Check.same("out", x.now(1), 3);
        x.back(0);
        Check.same("out", x.now(1), 2);
        Check.same("FINED", x.now(4), 1);
        x.days(1);
        Check.same("DAY", x.now(0), 1);
        Check.same("out", x.now(1), 0);
        Check.same("READ by somebody", x.now(3), 3);
        Check.same("BOOKS READ", x.now(5), 2);
        Check.same("pages READ", x.now(6), 4 + 10 + 6);
        Check.same("still FINED", x.now(4), 1);
        x.days(1);
        Check.same("pages READ", x.now(6), 23);
        Check.same("FINED no more", x.now(4), 0);
        x.tell(1, 0, 2);
        Check.same("told ones, too", x.now(5), 3);
        Check.same("no pages for that", x.now(6), 23);
        x.tell(2, 1, 1);
        Check.same("two readers, one set", x.now(3), 3);
        Check.same("BOOKS READ", x.now(5), 4);
        for (int what : new int[] {-1, 8, Integer.MIN_VALUE, Integer.MAX_VALUE}) {
            Check.same("no such what", x.now(what), -1);
        }
    }
}
