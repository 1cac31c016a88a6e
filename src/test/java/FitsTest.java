/** Promises 25 to 27: what a new BOOK can be AFTER by who was lent it. */
final class FitsTest {
    public static void main(String[] args) {
        SequelShelf x = new SequelShelf();
        fits(x, -1, 1, 1);
        fits(x, -1, 0, 1);
        fits(x, -1, 0, 0);
        Check.same("there are no BOOKS: fitting()", x.fitting(), -1);
        Check.same("there are no BOOKS: ask()", x.ask(), -1);
        x = Check.shelf("book a 1 1;book b 1 1;book c 1 1;book d 1 1;after b a;");
        Check.same("fitting()", x.fitting(), -1);
        Check.same("ask()", x.ask(), -1);
        fits(x, -1);
        fits(x, -1, 1);
        fits(x, -1, 1, 1, 1);
        fits(x, -1, 16, 1);
        fits(x, -1, 255, 0);
        fits(x, -1, 15, 2);
        fits(x, -1, 15, 255);
        Check.same("fitting()", x.fitting(), -1);
        fits(x, 16, 15, 1);
        Check.same("the empty SET is one, too", x.fitting(), 0);
        Check.same("ask()", x.ask(), 0);
        fits(x, 1, 0, 1);
        Check.same("fitting()", x.fitting(), 0);
        Check.same("of like ones the first", x.ask(), 0);
        // Not all in {a, b, c}, all in {b, c, d}: d, bd, cd, bcd.
        fits(x, 4, 7, 0, 14, 1);
        Check.same("fitting()", x.fitting(), 8);
        Check.same("b halves them", x.ask(), 1);
        // Not all in {b, d}, nor all in {b, c}: the eight with a, and cd, bcd.
        fits(x, 10, 10, 0, 6, 0);
        Check.same("a, fewest first", x.fitting(), 1);
        Check.same("b: 5 of 10 at most", x.ask(), 1);
        fits(x, 0, 7, 0, 7, 1);
        Check.same("of the latest above 0", x.fitting(), 1);
        Check.same("of the latest above 0", x.ask(), 1);
        fits(x, -1, 7, 3);
        Check.same("of the latest above 0", x.fitting(), 1);
        fits(x, 8, 15, 1, 15, 1, 15, 1, 15, 1, 15, 1, 15, 1, 15, 1, 7, 1);
        fits(x, -1, 15, 1, 15, 1, 15, 1, 15, 1, 15, 1, 15, 1, 15, 1, 7, 1, 15, 1);
        // Not in {a, b, d}: c and what holds it; not in {b, c, d}: a; so ac, abc, acd, abcd.
        fits(x, 4, 11, 0, 14, 0);
        Check.same("fitting()", x.fitting(), 5);
        Check.same("ask()", x.ask(), 1);
        fits(x, 1, 11, 0, 14, 0, 5, 1);
        Check.same("fitting()", x.fitting(), 5);
        Check.same("a new LIBRARY leaves it", newLibrary(x), 0);
        Check.same("fitting()", x.fitting(), 5);
        Check.same("ask()", x.ask(), 0);
        Check.same("fault() is of texts alone", x.fault(), 0);
        x = Check.shelf("book a 1 1;book b 1 1;book c 1 1;book d 1 1;book e 1 1;book f 1 1;"
                + "book g 1 1;book h 1 1;");
        fits(x, 256, 255, 1);
        fits(x, 128, 127, 0);
        Check.same("h", x.fitting(), 128);
        Check.same("a halves them", x.ask(), 0);
        oneBook();
        anyPairThatIsNotAsTold();
        fewestAndLeast();
        Check.finish();
    }

    private static void oneBook() {
        SequelShelf x = Check.shelf("book a 1 1;");
        fits(x, 2, 1, 1);
        Check.same("fitting()", x.fitting(), 0);
        Check.same("ask()", x.ask(), 0);
        fits(x, 1, 0, 0);
        Check.same("fitting()", x.fitting(), 1);
        Check.same("ask()", x.ask(), 0);
        fits(x, 0, 1, 0);
        fits(x, -1, 2, 1);
    }

    /** The last of the pairs as well as the first, and a byte too many or too few. */
    private static void anyPairThatIsNotAsTold() {
        SequelShelf x = Check.shelf("book a 1 1;book b 1 1;book c 1 1;");
        fits(x, 1, 0, 1, 7, 1);
        for (int pairs = 1; pairs <= 9; pairs++) {
            int[] bytes = new int[2 * pairs];
            for (int i = 0; i < bytes.length; i += 2) {
                bytes[i] = 7;
                bytes[i + 1] = 1;
            }
            fits(x, pairs < 9 ? 8 : -1, bytes);
            fits(x, -1, java.util.Arrays.copyOf(bytes, bytes.length - 1));
            bytes[bytes.length - 1] = 2;
            fits(x, -1, bytes);
            bytes[bytes.length - 1] = 1;
            bytes[bytes.length - 2] = 8;
            fits(x, -1, bytes);
            bytes[bytes.length - 2] = 255;
            fits(x, -1, bytes);
        }
        Check.same("of the latest above 0", x.fitting(), 0);
    }

    private static void fewestAndLeast() {
        SequelShelf x = Check.shelf("book a 1 1;book b 1 1;book c 1 1;");
        // Not in {b}, not in {a}: c, ab, ac, bc, abc: ab is less as bits, but c has fewer BOOKS.
        fits(x, 5, 2, 0, 1, 0);
        Check.same("fewest BOOKS", x.fitting(), 4);
        Check.same("a: 3 of 5 at most, as b; c: 4", x.ask(), 0);
        // Not in {a}: b, ab, c, ac, bc, abc.
        fits(x, 6, 1, 0);
        Check.same("of like ones the least", x.fitting(), 2);
        Check.same("a halves them", x.ask(), 0);
        fits(x, 7, 0, 0);
        Check.same("of like ones the least", x.fitting(), 1);
        fits(x, 2, 4, 1);
        Check.same("c alone tells them apart", x.ask(), 2);
        fits(x, 2, 6, 1, 4, 0);
        Check.same("b is in them", x.fitting(), 2);
        Check.same("c alone tells them apart", x.ask(), 2);
    }

    private static int newLibrary(SequelShelf x) {
        Check.put(x, "");
        return x.library();
    }

    private static void fits(SequelShelf x, int answer, int... bytes) {
        byte[] all = new byte[bytes.length];
        for (int i = 0; i < bytes.length; i++) {
            all[i] = (byte) bytes[i];
        }
        Check.put(x, all);
        Check.same("fits() of " + java.util.Arrays.toString(bytes), x.fits(), answer);
        Check.same("the tape is empty then", x.count(4), 0);
    }
}
