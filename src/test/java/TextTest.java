/** Promises 1 to 5 and 41: a new object, the tape, LIBRARIES and their FAULTS, counts. */
final class TextTest {
    private static final String WORDS = "book after reader fine lends returns tells forge mend burn"
            + " buy day or and not idle fined done has read pace left owes number";

    public static void main(String[] args) {
        newObject();
        tape();
        goodLibraries();
        tokens();
        numbers();
        names();
        tooMany();
        tooLong();
        whatANewLibraryIs();
        whatStays();
        Check.finish();
    }

    private static void newObject() {
        SequelShelf x = new SequelShelf();
        Check.same("count(0)", x.count(0), 0);
        Check.same("count(1)", x.count(1), 0);
        Check.same("count(2)", x.count(2), 0);
        Check.same("count(3)", x.count(3), 5);
        Check.same("count(4)", x.count(4), 0);
        Check.same("count(5)", x.count(5), -1);
        Check.same("count(-1)", x.count(-1), -1);
        Check.same("fault()", x.fault(), 0);
        Check.same("now(0)", x.now(0), 0);
        Check.same("undo()", x.undo(), -1);
        Check.same("wayAt(0)", x.wayAt(0), -1);
        Check.same("ringAt(0)", x.ringAt(0), -1);
        Check.same("cutting()", x.cutting(), -1);
        Check.same("fitting()", x.fitting(), -1);
        Check.same("ask()", x.ask(), -1);
        Check.same("atOnceOf(0)", x.atOnceOf(0), -1);
        Check.same("byteAt(0)", x.byteAt(0), -1);
        for (int what = -1; what < 5; what++) {
            Check.same("told()", x.told(what), -1);
        }
        Check.same("said(-1)", x.said(-1), -1);
        Check.no("restore(0)", x.restore(0));
        Check.no("restore(1)", x.restore(1));
    }

    private static void tape() {
        SequelShelf x = new SequelShelf();
        for (int i = 1; i <= 47; i++) {
            Check.same("feed", x.feed(0x20202020, 0x0a0a0a0a, 0x20202020, 0x20202020, -1), 20 * i);
        }
        Check.same("feed beyond", x.feed(1, 2, 3, 4, 5), -1);
        Check.same("count(4)", x.count(4), 940);
        Check.no("end(941)", x.end(941));
        Check.no("end(-1)", x.end(-1));
        Check.no("end(least)", x.end(Integer.MIN_VALUE));
        Check.yes("end(940)", x.end(940));
        Check.yes("end(921)", x.end(921));
        Check.same("feed at 921", x.feed(1, 2, 3, 4, 5), -1);
        Check.same("count(4)", x.count(4), 921);
        Check.yes("end(920)", x.end(920));
        Check.same("feed at 920", x.feed(1, 2, 3, 4, 5), 940);
        Check.yes("end(0)", x.end(0));
        Check.same("count(4)", x.count(4), 0);
        Check.no("end(1)", x.end(1));
        // The highest byte first: 'fine 7;' and blanks.
        Check.same("feed", x.feed(0x66696e65, 0x20373b20, 0x20202020, 0x20202020, 0x2020200a), 20);
        Check.same("library()", x.library(), 1);
        Check.same("count(3)", x.count(3), 7);
        // The first bytes come first: the second number behind the first.
        Check.same("feed", x.feed(0x626f6f6b, 0x20612031, 0x20313b66, 0x696e6520, 0x393b6666), 20);
        Check.yes("end(18)", x.end(18));
        Check.same("library()", x.library(), 2);
        Check.same("count(3)", x.count(3), 9);
        Check.same("bytes above 127 are no TOKENS", x.feed(0x80ff0000, 0, 0, 0, 0), 20);
        Check.same("library()", x.library(), -1);
        Check.same("fault()", x.fault(), 1);
    }

    private static void goodLibraries() {
        SequelShelf x = new SequelShelf();
        Check.library(x, "", 0, 0);
        Check.library(x, "  \n ", 0, 0);
        Check.library(x, "book a 1 0;", 1, 0);
        Check.same("count(0)", x.count(0), 1);
        Check.same("pages", x.book(0, 0), 1);
        Check.same("copies", x.book(0, 1), 0);
        Check.library(x, "book  abcdefg\n99 9 ; book b 001 09;after b abcdefg;reader c 30;"
                + "reader d 1;fine 0;", 6, 0);
        Check.same("count(0)", x.count(0), 2);
        Check.same("count(1)", x.count(1), 1);
        Check.same("count(2)", x.count(2), 2);
        Check.same("count(3)", x.count(3), 0);
        Check.same("pages", x.book(0, 0), 99);
        Check.same("copies", x.book(0, 1), 9);
        Check.same("after", x.book(1, 4), 1);
        Check.same("after", x.book(0, 4), 0);
        Check.same("pace", x.reader(0, 0), 30);
        Check.same("pace", x.reader(1, 0), 1);
        Check.library(x, "fine 30;", 1, 0);
        Check.same("count(3)", x.count(3), 30);
        Check.library(x, "book a 1 1;book b 1 1;after a b;after b a;", 4, 0);
        Check.same("after", x.book(0, 4), 2);
        Check.same("after", x.book(1, 4), 1);
        Check.same("fine without one told", x.count(3), 5);
    }

    private static void tokens() {
        SequelShelf x = new SequelShelf();
        Check.library(x, ";", -1, 1);
        Check.library(x, " ;", -2, 1);
        Check.library(x, "book", -5, 1);
        Check.library(x, "book  ", -7, 1);
        Check.library(x, "book a 1 1", -11, 1);
        Check.library(x, "book a 1 1 \n", -13, 1);
        Check.library(x, "book a 1;", -9, 1);
        Check.library(x, "book a b 1;", -8, 1);
        Check.library(x, "book 1 1 1;", -6, 1);
        Check.library(x, "book abcdefgh 1 1;", -6, 1);
        Check.library(x, "book a1 1 1;", -6, 1);
        Check.library(x, "book a 1b 1;", -8, 1);
        Check.library(x, "book a 0001 1;", -8, 1);
        Check.library(x, "book a 1 1 1;", -12, 1);
        Check.library(x, "booka 1 1;", -1, 1);
        Check.library(x, "fine5;", -1, 1);
        Check.library(x, "Book a 1 1;", -1, 1);
        Check.library(x, "book A 1 1;", -6, 1);
        Check.library(x, "book\ta 1 1;", -5, 1);
        Check.library(x, "book\ra 1 1;", -5, 1);
        Check.library(x, "book a 1 1.", -11, 1);
        Check.library(x, "book a -1 1;", -8, 1);
        Check.library(x, "lends;", -1, 1);
        Check.library(x, "a;", -1, 1);
        Check.library(x, "7;", -1, 1);
        Check.library(x, "fine 5;;", -8, 1);
        Check.library(x, "fine 5;(", -8, 1);
        Check.library(x, "after", -6, 1);
        Check.library(x, "book a 1 1;after a", -19, 1);
        Check.library(x, "book a 1 1;after a;", -19, 1);
        Check.library(x, "book a 1 1;after a 5;", -20, 1);
        Check.library(x, "book a 1 1;after book a;", -18, 1);
        Check.library(x, "reader a;", -9, 1);
        Check.library(x, "fine a;", -6, 1);
        for (String word : WORDS.split(" ")) {
            Check.library(x, "book " + word + " 1 1;", -6, 1);
            Check.library(x, "reader " + word + " 1;", -8, 1);
        }
    }

    private static void numbers() {
        SequelShelf x = new SequelShelf();
        Check.library(x, "book a 0 1;", -8, 2);
        Check.library(x, "book a 100 1;", -8, 2);
        Check.library(x, "book a 99 10;", -11, 2);
        Check.library(x, "book a 99 999;", -11, 2);
        Check.library(x, "reader a 0;", -10, 2);
        Check.library(x, "reader a 31;", -10, 2);
        Check.library(x, "fine 31;", -6, 2);
        Check.library(x, "fine 31", -6, 2);
        Check.library(x, "book a 0 x;", -8, 2);
    }

    private static void names() {
        SequelShelf x = new SequelShelf();
        String two = "book a 1 1;book b 1 1;";
        Check.library(x, two + "book a 1 1;", -28, 3);
        Check.library(x, two + "book a 0 1;", -28, 3);
        Check.library(x, two + "reader a 1;", -30, 3);
        Check.library(x, two + "reader c 1;book c 1 1;", -39, 3);
        Check.library(x, two + "reader c 1;reader c 2;", -41, 3);
        Check.library(x, two + "after a c;", -31, 3);
        Check.library(x, two + "after c a;", -29, 3);
        Check.library(x, "after a b;" + two, -7, 3);
        Check.library(x, two + "reader c 1;after a c;", -42, 3);
        Check.library(x, two + "after a a;", -31, 3);
        Check.library(x, two + "after a b;after a b;", -41, 3);
        Check.library(x, two + "after a b;after b a;after b a;", -51, 3);
        Check.library(x, "fine 5;fine 5;", -8, 3);
        Check.library(x, "fine 5;fine 31;", -8, 3);
        Check.library(x, "fine 5;fine", -8, 3);
    }

    private static void tooMany() {
        SequelShelf x = new SequelShelf();
        String books = "";
        for (int i = 0; i < 8; i++) {
            books += "book " + (char) ('a' + i) + " 1 1;";
        }
        Check.library(x, books, 8, 0);
        Check.library(x, books + "book i 1 1;", -89, 4);
        Check.library(x, books + "book a 0 1;", -89, 4);
        Check.library(x, books + "book", -89, 4);
        String readers = "";
        for (int i = 0; i < 6; i++) {
            readers += "reader " + (char) ('p' + i) + " 1;";
        }
        Check.library(x, readers, 6, 0);
        Check.library(x, readers + " reader a 1;", -68, 4);
        String afters = "";
        for (int i = 0; i < 16; i++) {
            afters += "after " + (char) ('a' + i / 2) + " " + (char) ('a' + (i / 2 + 1 + i % 2) % 8) + ";";
        }
        Check.library(x, books + afters, 24, 0);
        Check.same("count(1)", x.count(1), 16);
        Check.library(x, books + afters + "after a h;", -249, 4);
        Check.library(x, books + afters + "after a a;", -249, 4);
        Check.library(x, books + afters + readers + "fine 1;", 31, 0);
    }

    private static void tooLong() {
        SequelShelf x = new SequelShelf();
        String line = "book a 1 1;";
        Check.library(x, line + Check.times(889, " "), 1, 0);
        Check.library(x, line + Check.times(890, " "), -901, 1);
        Check.library(x, line + Check.times(929, " "), -901, 1);
        Check.library(x, Check.times(890, " ") + line, -901, 1);
        Check.library(x, Check.times(889, " ") + line, 1, 0);
        Check.library(x, Check.times(889, " ") + "book a 0 1;  ", -897, 2);
        Check.library(x, Check.times(889, " ") + "book a 1 10;  ", -899, 2);
        Check.library(x, Check.times(889, " ") + "book a 1 0;  ", -901, 1);
        Check.library(x, Check.times(888, " ") + "book a 1 1 x", -900, 1);
        Check.library(x, Check.times(889, " ") + "book a 1 1 x", -901, 1);
        Check.library(x, Check.times(895, " ") + "reader a 31", -901, 1);
        Check.library(x, Check.times(899, " ") + "rreader", -900, 1);
        Check.library(x, Check.times(890, " ") + "fine 5;;", -898, 1);
        // A WORD that begins ahead of the 900th byte is read whole, also where that is its FAULT.
        Check.library(x, Check.times(894, " ") + "book abcdefgh", -900, 1);
        Check.library(x, Check.times(894, " ") + "book abcdefg", -901, 1);
        Check.library(x, Check.times(888, " ") + "reader aa 9999", -899, 1);
        Check.library(x, Check.times(888, " ") + "reader aa 999", -899, 2);
        Check.library(x, Check.times(888, " ") + "reader aa 09;", -901, 1);
    }

    private static void whatANewLibraryIs() {
        SequelShelf x = Check.shelf("book a 5 2;book b 5 2;after b a;reader p 5;reader q 1;");
        x.lend(0, 0);
        x.lend(1, 0);
        x.days(1);
        x.back(1);
        x.forge(1);
        Check.put(x, "idle");
        x.sentence();
        Check.library(x, "book a 5 2;book b 5 2;after b a;reader p 5;reader q 1;", 5, 0);
        for (int what = 0; what < 8; what++) {
            Check.same("now(" + what + ")", x.now(what), 0);
        }
        Check.same("copies in", x.book(0, 1), 2);
        Check.same("fines", x.reader(1, 3), 0);
        Check.same("READ", x.reader(0, 4), 0);
        Check.same("no SENTENCE", x.said(-1), -1);
        Check.same("nothing to undo", x.undo(), -1);
    }

    private static void whatStays() {
        SequelShelf x = Check.shelf("book a 5 2;reader p 5;fine 9;");
        x.lend(0, 0);
        Check.sentence(x, "has a", 1, 0);
        Check.library(x, "book b 1 1;book c 1 1;reader q 7;fine 3; x", -42, 1);
        Check.same("count(0)", x.count(0), 1);
        Check.same("count(2)", x.count(2), 1);
        Check.same("count(3)", x.count(3), 9);
        Check.same("pages", x.book(0, 0), 5);
        Check.same("has", x.reader(0, 1), 0);
        Check.same("said(-1)", x.said(-1), 1);
        Check.text("slip", Check.slip(x, 0), "p has a 5");
        Check.same("undo()", x.undo(), 0);
        Check.library(x, "", 0, 0);
        Check.same("count(0)", x.count(0), 0);
    }
}
