/** Promises 18 to 24 and 30: WAYS, RINGS, CUT, DEEP and MEAN. */
final class OrderTest {
    public static void main(String[] args) {
        way();
        wayWithABook();
        wayByRead();
        wayByReadAndHas();
        wayDays();
        ring();
        ringsOfLikeLength();
        cut();
        cutOfEight();
        deep();
        mean();
        Check.finish();
    }

    private static String books(int n) {
        StringBuilder text = new StringBuilder();
        for (int i = 0; i < n; i++) {
            text.append("book ").append((char) ('a' + i)).append(' ').append(10 * (i + 1)).append(" 1;");
        }
        return text.toString();
    }

    /** Each pair of letters: the first is AFTER the second. */
    private static String afters(String... pairs) {
        StringBuilder text = new StringBuilder();
        for (String pair : pairs) {
            text.append("after ").append(pair.charAt(0)).append(' ').append(pair.charAt(1)).append(';');
        }
        return text.toString();
    }

    private static void wayIs(SequelShelf x, int... books) {
        Check.same("wayAt(-1)", x.wayAt(-1), -1);
        for (int k = 0; k < books.length; k++) {
            Check.same("wayAt(" + k + ")", x.wayAt(k), books[k]);
        }
        Check.same("wayAt behind", x.wayAt(books.length), -1);
        Check.same("wayAt far behind", x.wayAt(Integer.MAX_VALUE), -1);
    }

    private static void ringIs(SequelShelf x, int... books) {
        Check.same("ringAt(-1)", x.ringAt(-1), -1);
        for (int k = 0; k < books.length; k++) {
            Check.same("ringAt(" + k + ")", x.ringAt(k), books[k]);
        }
        Check.same("ringAt behind", x.ringAt(books.length), -1);
        Check.same("ringAt far behind", x.ringAt(Integer.MAX_VALUE), -1);
    }

    private static void way() {
        // a is AFTER d and e, d AFTER e, b stands alone, c and f are a RING.
        SequelShelf x = Check.shelf(books(7) + afters("ad", "ae", "de", "cf", "fc", "gb") + "reader p 7;reader q 30;");
        wayIs(x);
        Check.same("50 pages by 7", x.way(0, 4), 8);
        wayIs(x, 4);
        Check.same("10, 40, 50 by 30", x.way(1, 0), 4);
        wayIs(x, 4, 3, 0);
        Check.same("in a RING", x.way(0, 2), -1);
        Check.same("no such READER", x.way(2, 0), -1);
        Check.same("no such READER", x.way(-1, 0), -1);
        Check.same("no such BOOK", x.way(0, 7), -1);
        Check.same("no such BOOK", x.way(0, -1), -1);
        wayIs(x, 4, 3, 0);
        Check.same("70 and 20 by 30: no rest", x.way(1, 6), 3);
        wayIs(x, 1, 6);
        x.forge(2);
        Check.same("FORGED", x.way(1, 2), 1);
        wayIs(x, 2);
        Check.same("30 and 60 by 30", x.way(1, 5), 3);
        wayIs(x, 2, 5);
    }

    private static void wayWithABook() {
        SequelShelf x = Check.shelf(books(5) + afters("ed", "ea", "dc", "ec") + "reader p 7;reader q 10;fine 9;");
        x.lend(1, 2);
        x.days(1);
        // c (20 left), a 10, d 40, e 50
        Check.same("the one that he has comes first", x.way(1, 4), 12);
        wayIs(x, 2, 0, 3, 4);
        Check.same("for the one that he has", x.way(1, 2), 2);
        wayIs(x, 2);
        Check.same("its PAGES count when it is not on the WAY", x.way(1, 1), 4);
        wayIs(x, 1);
        x.back(1);
        Check.same("9 of fines, 30, 10, 40, 50", x.way(1, 4), 14);
        wayIs(x, 0, 2, 3, 4);
        // A FORGED one that is lent and mended again needs nothing else.
        x = Check.shelf(books(3) + afters("ba", "cb") + "reader p 10;");
        x.forge(1);
        x.lend(0, 1);
        x.mend(1);
        Check.same("for the one that he has nothing else", x.way(0, 2), 5);
        wayIs(x, 1, 2);
        Check.same("before it: 20 and 10", x.way(0, 0), 3);
        wayIs(x, 0);
    }

    private static void wayByRead() {
        SequelShelf x = Check.shelf(books(4) + afters("ba", "cb", "dc") + "reader p 20;fine 7;");
        x.forge(1);
        x.lend(0, 1);
        x.days(1);
        x.mend(1);
        Check.same("b is READ: a is not needed", x.way(0, 3), 4);
        wayIs(x, 2, 3);
        Check.same("READ", x.way(0, 1), 0);
        wayIs(x);
        x.lend(0, 2);
        x.back(0);
        Check.same("READ, with fines, too", x.way(0, 1), 0);
        Check.same("a: 10 and 7", x.way(0, 0), 1);
        wayIs(x, 0);
        Check.same("d: 70 and 7 by 20", x.way(0, 3), 4);
    }

    /** What he has READ and what he has count together for what comes then. */
    private static void wayByReadAndHas() {
        SequelShelf x = Check.shelf(books(4) + afters("ca", "cb", "dc") + "reader p 10;");
        x.lend(0, 0);
        x.days(1);
        x.lend(0, 1);
        x.days(1);
        Check.same("b (10 left), c 30", x.way(0, 2), 4);
        wayIs(x, 1, 2);
        Check.same("b (10 left), c 30, d 40", x.way(0, 3), 8);
        wayIs(x, 1, 2, 3);
        Check.same("a is READ", x.way(0, 0), 0);
        wayIs(x);
        Check.same("the one that he has", x.way(0, 1), 1);
        wayIs(x, 1);
    }

    /** DAYS, "cut up": a rest is a whole DAY, by the least PACE and the most. */
    private static void wayDays() {
        SequelShelf x = Check.shelf("book a 29 1;book b 30 1;book c 31 1;book d 60 1;book e 61 1;book f 1 1;"
                + "book g 99 1;reader p 1;reader q 30;reader r 29;fine 1;");
        int[] by30 = {1, 1, 2, 2, 3, 1, 4};
        int[] by29 = {1, 2, 2, 3, 3, 1, 4};
        for (int b = 0; b < 7; b++) {
            Check.same("by 1", x.way(0, b), x.book(b, 0));
            Check.same("by 30", x.way(1, b), by30[b]);
            Check.same("by 29", x.way(2, b), by29[b]);
        }
        x.lend(1, 1);
        x.back(1);
        Check.same("1 and 29", x.way(1, 0), 1);
        Check.same("1 and 30", x.way(1, 1), 2);
        x.lend(1, 0);
        Check.same("1, 29 and 30", x.way(1, 1), 2);
        Check.same("1, 29 and 31", x.way(1, 2), 3);
        wayIs(x, 2);
    }

    private static void ring() {
        SequelShelf x = Check.shelf(books(8) + afters("ab", "bc", "ca", "da", "ef", "fe", "fa", "gh", "hg", "gd"));
        ringIs(x);
        Check.same("ring", x.ring(0), 3);
        ringIs(x, 0, 1, 2);
        Check.same("ring", x.ring(2), 3);
        ringIs(x, 2, 0, 1);
        Check.same("behind one alone", x.ring(3), -1);
        Check.same("no such BOOK", x.ring(8), -1);
        Check.same("no such BOOK", x.ring(-1), -1);
        ringIs(x, 2, 0, 1);
        Check.same("ring", x.ring(5), 2);
        ringIs(x, 5, 4);
        Check.same("in RINGS", x.now(7), 0b11110111);
        x.forge(1);
        Check.same("FORGED ones are AFTER none", x.ring(0), -1);
        Check.same("in RINGS", x.now(7), 0b11110000);
        x.mend(1);
        Check.same("mended", x.ring(0), 3);
        x = Check.shelf(books(8) + afters("ah", "hg", "gf", "fe", "ed", "dc", "cb", "ba"));
        Check.same("all eight", x.ring(3), 8);
        ringIs(x, 3, 2, 1, 0, 7, 6, 5, 4);
        Check.same("in RINGS", x.now(7), 255);
    }

    private static void ringsOfLikeLength() {
        SequelShelf x = Check.shelf(books(6) + afters("af", "fb", "ae", "eb", "ba", "ad", "dc", "ca", "cb"));
        // a-d-c-a is as short as a-e-b-a and a-f-b-a; the least at each step wins.
        Check.same("ring", x.ring(0), 3);
        ringIs(x, 0, 3, 2);
        Check.same("ring", x.ring(1), 3);
        ringIs(x, 1, 0, 4);
        x = Check.shelf(books(5) + afters("ab", "bc", "ca", "ae", "ea"));
        Check.same("the fewest, not the first", x.ring(0), 2);
        ringIs(x, 0, 4);
    }

    private static void cut() {
        SequelShelf x = Check.shelf(books(6) + afters("ab", "ba", "bc", "cb", "de", "ed", "fa"));
        Check.same("cutting()", x.cutting(), -1);
        Check.same("cut()", x.cut(), 2);
        Check.same("b, and d ahead of e", x.cutting(), 0b001010);
        x.forge(1);
        Check.same("the latest one stays", x.cutting(), 0b001010);
        Check.same("besides", x.cut(), 1);
        Check.same("d", x.cutting(), 0b001000);
        x.forge(4);
        Check.same("none", x.cut(), 0);
        Check.same("cutting()", x.cutting(), 0);
        x = Check.shelf(books(4) + afters("ab", "ba", "ac", "ca", "ad", "da", "bc", "cb", "bd", "db", "cd", "dc"));
        Check.same("all but one", x.cut(), 3);
        Check.same("the least as bits", x.cutting(), 7);
        Check.same("without BOOKS", new SequelShelf().cut(), 0);
    }

    /** Four RINGS of two, and one of eight. */
    private static void cutOfEight() {
        SequelShelf x = Check.shelf(books(8) + afters("ab", "ba", "cd", "dc", "ef", "fe", "gh", "hg"));
        Check.same("cut()", x.cut(), 4);
        Check.same("the first of each", x.cutting(), 0b01010101);
        x.forge(0);
        x.forge(7);
        Check.same("cut()", x.cut(), 2);
        Check.same("those that are FORGED are not told again", x.cutting(), 0b00010100);
        x = Check.shelf(books(8) + afters("ah", "hg", "gf", "fe", "ed", "dc", "cb", "ba"));
        Check.same("cut()", x.cut(), 1);
        Check.same("the first", x.cutting(), 1);
        x = Check.shelf(books(8) + afters("gh", "hg"));
        Check.same("cut()", x.cut(), 1);
        Check.same("of the last two the first", x.cutting(), 64);
        // Two RINGS meet at h alone: the last BOOK is less than two of the others.
        x = Check.shelf(books(8) + afters("ah", "ha", "bh", "hb"));
        Check.same("cut()", x.cut(), 1);
        Check.same("h", x.cutting(), 128);
    }

    private static void deep() {
        SequelShelf x = Check.shelf(books(8) + afters("ba", "cb", "ca", "dc", "ed", "ea", "fg", "gf", "hf", "he"));
        int[] due = {0, 1, 2, 3, 4, -1, -1, -1};
        for (int b = 0; b < 8; b++) {
            Check.same("deep(" + b + ")", x.deep(b), due[b]);
        }
        Check.same("no such BOOK", x.deep(8), -1);
        Check.same("no such BOOK", x.deep(-1), -1);
        x.forge(3);
        Check.same("FORGED", x.deep(3), 0);
        Check.same("over a and d", x.deep(4), 1);
        x.forge(5);
        Check.same("no RING is left", x.deep(7), 2);
        Check.same("no RING is left", x.deep(6), 1);
        x = Check.shelf(books(8) + afters("ah", "hg", "gf", "fe", "ed", "dc", "cb"));
        Check.same("the deepest", x.deep(0), 7);
        Check.same("without BOOKS", new SequelShelf().deep(0), -1);
    }

    private static void mean() {
        SequelShelf x = Check.shelf("book a 10 1;book b 5 1;book c 6 1;book d 3 1;book e 9 1;book f 9 1;book g 9 1;"
                + afters("ba", "cb", "ca", "da", "ef", "fe", "ge") + "reader p 10;");
        Check.mean(x, 0, 10, 1);
        Check.mean(x, 1, 15, 2);
        Check.mean(x, 2, 7, 1);
        Check.mean(x, 3, 13, 2);
        Check.meanThrows(x, 4, 0);
        Check.meanThrows(x, 6, 1);
        Check.meanThrows(x, 7, 0);
        Check.meanThrows(x, -1, 0);
        Check.meanThrows(x, 0, 2);
        Check.meanThrows(x, 0, -1);
        Check.meanThrows(x, Integer.MAX_VALUE, Integer.MIN_VALUE);
        x.lend(0, 0);
        x.days(1);
        Check.mean(x, 1, 15, 2);
        x.forge(2);
        Check.mean(x, 2, 6, 1);
        x.forge(5);
        Check.mean(x, 6, 9, 1);
        x = Check.shelf("book a 1 1;book b 2 1;book c 3 1;book d 4 1;book e 5 1;book f 5 1;"
                + afters("fa", "fb", "fc", "fd", "fe"));
        Check.mean(x, 5, 10, 3);
    }
}
