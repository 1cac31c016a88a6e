/** Promises 1 to 5 and 41: a new object, the tape, LIBRARIES and their FAULTS, counts. */
final class TextTest {
    private static final String WORDS = "book after reader fine lends returns tells forge mend burn"
            + " buy day or and not idle fined done has read pace left owes number";

    public static void main(String[] args) {
        newObject();
        tape();
        tapeCutOff();
        goodLibraries();
        everyByte();
        tokens();
        numbers();
        names();
        tooMany();
        tooLong();
        firstOfMany();
        whatANewLibraryIs();
        aBookThatIsOut();
        smallerLibrary();
        fullLibrary();
        whatStays();
        Check.finish();
    }

    private static void newObject() {
        SequelShelf x = new SequelShelf();
        Check.same("count(0)", x.count(0), 0);
        Check.same("count(1)", x.count(1), 0);
        Check.same("count(2)", x.count(2), 0);
        Check.same("count(3)", x.count(3), 5);
        Check.same("count(4)", x.count(4), 0);
        Check.same("count(5)", x.count(5), -1);
        Check.same("count(-1)", x.count(-1), -1);
        Check.same("fault()", x.fault(), 0);
        for (int what = 0; what < 8; what++) {
            Check.same("now(" + what + ")", x.now(what), 0);
        }
        Check.same("undo()", x.undo(), -1);
        Check.same("wayAt(0)", x.wayAt(0), -1);
        Check.same("ringAt(0)", x.ringAt(0), -1);
        Check.same("cutting()", x.cutting(), -1);
        Check.same("fitting()", x.fitting(), -1);
        Check.same("ask()", x.ask(), -1);
        Check.same("atOnceOf(0)", x.atOnceOf(0), -1);
        Check.same("byteAt(0)", x.byteAt(0), -1);
        for (int what = -1; what < 5; what++) {
            Check.same("told()", x.told(what), -1);
        }
        Check.same("said(-1)", x.said(-1), -1);
        Check.no("restore(0)", x.restore(0));
        Check.no("restore(1)", x.restore(1));
        Check.same("the tape is empty: library()", x.library(), 0);
        x = new SequelShelf();
        Check.same("the tape is empty: record()", x.record(0), -1);
        x = new SequelShelf();
        Check.same("the tape is empty: sentence()", x.sentence(), -1);
        x = new SequelShelf();
        Check.same("DAYS go by", x.days(60), 60);
        Check.same("DAYS go by", x.drawn(1, 1), 1);
        Check.same("undo()", x.undo(), 1);
        Check.same("undo()", x.undo(), 0);
        Check.same("undo()", x.undo(), -1);
        Check.same("DAY", x.now(0), 0);
        Check.same("cut()", x.cut(), 0);
        Check.same("cutting()", x.cutting(), 0);
        Check.same("atOnce()", x.atOnce(), 0);
    }

    private static void tape() {
        SequelShelf x = new SequelShelf();
        for (int i = 1; i <= 47; i++) {
            Check.same("feed", x.feed(0x20202020, 0x0a0a0a0a, 0x20202020, 0x20202020, -1), 20 * i);
        }
        Check.same("feed beyond", x.feed(1, 2, 3, 4, 5), -1);
        Check.same("count(4)", x.count(4), 940);
        Check.no("end(941)", x.end(941));
        Check.no("end(-1)", x.end(-1));
        Check.no("end(least)", x.end(Integer.MIN_VALUE));
        Check.yes("end(940)", x.end(940));
        Check.yes("end(921)", x.end(921));
        Check.same("feed at 921", x.feed(1, 2, 3, 4, 5), -1);
        Check.same("count(4)", x.count(4), 921);
        Check.yes("end(920)", x.end(920));
        Check.same("feed at 920", x.feed(1, 2, 3, 4, 5), 940);
        Check.yes("end(0)", x.end(0));
        Check.same("count(4)", x.count(4), 0);
        Check.no("end(1)", x.end(1));
        // The highest byte first: 'fine 7;' and blanks.
        Check.same("feed", x.feed(0x66696e65, 0x20373b20, 0x20202020, 0x20202020, 0x2020200a), 20);
        Check.same("library()", x.library(), 1);
        Check.same("count(3)", x.count(3), 7);
        // The first bytes come first: the second number behind the first.
        Check.same("feed", x.feed(0x626f6f6b, 0x20612031, 0x20313b66, 0x696e6520, 0x393b6666), 20);
        Check.yes("end(18)", x.end(18));
        Check.same("library()", x.library(), 2);
        Check.same("count(3)", x.count(3), 9);
        Check.same("bytes above 127 are no TOKENS", x.feed(0x80ff0000, 0, 0, 0, 0), 20);
        Check.same("library()", x.library(), -1);
        Check.same("fault()", x.fault(), 1);
    }

    /** What is behind the end is gone, and what comes later comes behind what was left. */
    private static void tapeCutOff() {
        SequelShelf x = new SequelShelf();
        // 'book ab 1 1;reader p' and then, behind 'book a', ' 7 2;fine 3;' and blanks.
        Check.same("feed", x.feed(0x626f6f6b, 0x20616220, 0x3120313b, 0x72656164, 0x65722070), 20);
        Check.yes("end(6)", x.end(6));
        Check.no("end(7)", x.end(7));
        Check.no("end(20)", x.end(20));
        Check.yes("end(6) again", x.end(6));
        Check.same("feed", x.feed(0x20372032, 0x3b66696e, 0x6520333b, 0x20202020, 0x20202020), 26);
        Check.same("library()", x.library(), 2);
        Check.same("pages", x.book(0, 0), 7);
        Check.same("copies", x.book(0, 1), 2);
        Check.same("count(3)", x.count(3), 3);
        Check.same("count(2)", x.count(2), 0);
        Check.no("end(1): the tape is empty", x.end(1));
        Check.yes("end(0)", x.end(0));
        // A call that is refused puts none of its bytes there: 'fine 1;' is ahead of blanks alone.
        for (int i = 0; i < 47; i++) {
            x.feed(0x20202020, 0x20202020, 0x20202020, 0x20202020, 0x20202020);
        }
        Check.yes("end(881)", x.end(881));
        Check.same("feed", x.feed(0x66696e65, 0x20313b20, 0x20202020, 0x20202020, 0x20202020), 901);
        Check.same("feed", x.feed(0x20202020, 0x20202020, 0x20202020, 0x20202020, 0x20202020), 921);
        Check.same("feed beyond", x.feed(0x23232323, 0x23232323, 0x23232323, 0x23232323, 0x23232323), -1);
        Check.yes("end(900)", x.end(900));
        Check.same("library()", x.library(), 1);
        Check.same("count(3)", x.count(3), 1);
    }

    private static void goodLibraries() {
        SequelShelf x = new SequelShelf();
        Check.library(x, "", 0, 0);
        Check.library(x, "  \n ", 0, 0);
        Check.library(x, "book a 1 0;", 1, 0);
        Check.same("count(0)", x.count(0), 1);
        Check.same("pages", x.book(0, 0), 1);
        Check.same("copies", x.book(0, 1), 0);
        Check.library(x, "book  abcdefg\n99 9 ; book b 001 09;after b abcdefg;reader c 30;"
                + "reader d 1;fine 0;", 6, 0);
        Check.same("count(0)", x.count(0), 2);
        Check.same("count(1)", x.count(1), 1);
        Check.same("count(2)", x.count(2), 2);
        Check.same("count(3)", x.count(3), 0);
        Check.same("pages", x.book(0, 0), 99);
        Check.same("copies", x.book(0, 1), 9);
        Check.same("after", x.book(1, 4), 1);
        Check.same("after", x.book(0, 4), 0);
        Check.same("pace", x.reader(0, 0), 30);
        Check.same("pace", x.reader(1, 0), 1);
        Check.library(x, "fine 30;", 1, 0);
        Check.same("count(3)", x.count(3), 30);
        Check.library(x, "book a 1 1;book b 1 1;after a b;after b a;", 4, 0);
        Check.same("after", x.book(0, 4), 2);
        Check.same("after", x.book(1, 4), 1);
        Check.same("fine without one told", x.count(3), 5);
    }

    /** Each byte alone, and behind a digit: "what is not as told is no TOKEN". */
    private static void everyByte() {
        SequelShelf x = new SequelShelf();
        for (int value = 0; value < 256; value++) {
            boolean blank = value == 32 || value == 10;
            boolean digit = value >= '0' && value <= '9';
            boolean letter = value >= 'a' && value <= 'z';
            byte[] text = {(byte) value};
            Check.put(x, text);
            Check.same("library() of byte " + value, x.library(), blank ? 0 : -1);
            Check.same("fault() of byte " + value, x.fault(), blank ? 0 : 1);
            text = "fine 1 ;".getBytes();
            text[6] = (byte) value;
            Check.put(x, text);
            Check.same("library() of fine 1 and byte " + value, x.library(),
                    blank || digit ? 1 : letter ? -1 - 5 : value == ';' ? -1 - 7 : -1 - 6);
            Check.same("fault() of fine 1 and byte " + value, x.fault(), blank || digit ? 0 : 1);
        }
    }

    private static void tokens() {
        SequelShelf x = new SequelShelf();
        Check.library(x, ";", -1, 1);
        Check.library(x, " ;", -2, 1);
        Check.library(x, "book", -5, 1);
        Check.library(x, "book  ", -7, 1);
        Check.library(x, "book a 1 1", -11, 1);
        Check.library(x, "book a 1 1 \n", -13, 1);
        Check.library(x, "book a 1;", -9, 1);
        Check.library(x, "book a b 1;", -8, 1);
        Check.library(x, "book 1 1 1;", -6, 1);
        Check.library(x, "book abcdefgh 1 1;", -6, 1);
        Check.library(x, "book a1 1 1;", -6, 1);
        Check.library(x, "book a 1b 1;", -8, 1);
        Check.library(x, "book a 0001 1;", -8, 1);
        Check.library(x, "book a 1 1 1;", -12, 1);
        Check.library(x, "booka 1 1;", -1, 1);
        Check.library(x, "fine5;", -1, 1);
        Check.library(x, "Book a 1 1;", -1, 1);
        Check.library(x, "book A 1 1;", -6, 1);
        Check.library(x, "book\ta 1 1;", -5, 1);
        Check.library(x, "book\ra 1 1;", -5, 1);
        Check.library(x, "book a 1 1.", -11, 1);
        Check.library(x, "book a -1 1;", -8, 1);
        Check.library(x, "lends;", -1, 1);
        Check.library(x, "a;", -1, 1);
        Check.library(x, "7;", -1, 1);
        Check.library(x, "fine 5;;", -8, 1);
        Check.library(x, "fine 5;(", -8, 1);
        Check.library(x, "after", -6, 1);
        Check.library(x, "book a 1 1;after a", -19, 1);
        Check.library(x, "book a 1 1;after a;", -19, 1);
        Check.library(x, "book a 1 1;after a 5;", -20, 1);
        Check.library(x, "book a 1 1;after book a;", -18, 1);
        Check.library(x, "reader a;", -9, 1);
        Check.library(x, "fine a;", -6, 1);
        for (String word : WORDS.split(" ")) {
            Check.library(x, "book " + word + " 1 1;", -6, 1);
            Check.library(x, "reader " + word + " 1;", -8, 1);
        }
    }

    private static void numbers() {
        SequelShelf x = new SequelShelf();
        Check.library(x, "book a 0 1;", -8, 2);
        Check.library(x, "book a 100 1;", -8, 2);
        Check.library(x, "book a 99 10;", -11, 2);
        Check.library(x, "book a 99 999;", -11, 2);
        Check.library(x, "reader a 0;", -10, 2);
        Check.library(x, "reader a 31;", -10, 2);
        Check.library(x, "fine 31;", -6, 2);
        Check.library(x, "fine 31", -6, 2);
        Check.library(x, "book a 0 x;", -8, 2);
    }

    private static void names() {
        SequelShelf x = new SequelShelf();
        String two = "book a 1 1;book b 1 1;";
        Check.library(x, two + "book a 1 1;", -28, 3);
        Check.library(x, two + "book a 0 1;", -28, 3);
        Check.library(x, two + "reader a 1;", -30, 3);
        Check.library(x, two + "reader c 1;book c 1 1;", -39, 3);
        Check.library(x, two + "reader c 1;reader c 2;", -41, 3);
        Check.library(x, two + "after a c;", -31, 3);
        Check.library(x, two + "after c a;", -29, 3);
        Check.library(x, "after a b;" + two, -7, 3);
        Check.library(x, two + "reader c 1;after a c;", -42, 3);
        Check.library(x, two + "after a a;", -31, 3);
        Check.library(x, two + "after a b;after a b;", -41, 3);
        Check.library(x, two + "after a b;after b a;after b a;", -51, 3);
        Check.library(x, "fine 5;fine 5;", -8, 3);
        Check.library(x, "fine 5;fine 31;", -8, 3);
        Check.library(x, "fine 5;fine", -8, 3);
    }

    private static void tooMany() {
        SequelShelf x = new SequelShelf();
        String books = "";
        for (int i = 0; i < 8; i++) {
            books += "book " + (char) ('a' + i) + " 1 1;";
        }
        Check.library(x, books, 8, 0);
        Check.library(x, books + "book i 1 1;", -89, 4);
        Check.library(x, books + "book a 0 1;", -89, 4);
        Check.library(x, books + "book", -89, 4);
        String readers = "";
        for (int i = 0; i < 6; i++) {
            readers += "reader " + (char) ('p' + i) + " 1;";
        }
        Check.library(x, readers, 6, 0);
        Check.library(x, readers + " reader a 1;", -68, 4);
        String afters = "";
        for (int i = 0; i < 16; i++) {
            afters += "after " + (char) ('a' + i / 2) + " " + (char) ('a' + (i / 2 + 1 + i % 2) % 8) + ";";
        }
        Check.library(x, books + afters, 24, 0);
        Check.same("count(1)", x.count(1), 16);
        Check.library(x, books + afters + "after a h;", -249, 4);
        Check.library(x, books + afters + "after a a;", -249, 4);
        Check.library(x, books + afters + readers + "fine 1;", 31, 0);
    }

    private static void tooLong() {
        SequelShelf x = new SequelShelf();
        String line = "book a 1 1;";
        Check.library(x, line + Check.times(889, " "), 1, 0);
        Check.library(x, line + Check.times(890, " "), -901, 1);
        Check.library(x, line + Check.times(929, " "), -901, 1);
        Check.library(x, Check.times(890, " ") + line, -901, 1);
        Check.library(x, Check.times(889, " ") + line, 1, 0);
        Check.library(x, Check.times(889, " ") + "book a 0 1;  ", -897, 2);
        Check.library(x, Check.times(889, " ") + "book a 1 10;  ", -899, 2);
        Check.library(x, Check.times(889, " ") + "book a 1 0;  ", -901, 1);
        Check.library(x, Check.times(888, " ") + "book a 1 1 x", -900, 1);
        Check.library(x, Check.times(889, " ") + "book a 1 1 x", -901, 1);
        Check.library(x, Check.times(895, " ") + "reader a 31", -901, 1);
        Check.library(x, Check.times(899, " ") + "rreader", -900, 1);
        Check.library(x, Check.times(890, " ") + "fine 5;;", -898, 1);
        // A WORD that begins ahead of the 900th byte is read whole, also where that is its FAULT.
        Check.library(x, Check.times(894, " ") + "book abcdefgh", -900, 1);
        Check.library(x, Check.times(894, " ") + "book abcdefg", -901, 1);
        Check.library(x, Check.times(888, " ") + "reader aa 9999", -899, 1);
        Check.library(x, Check.times(888, " ") + "reader aa 999", -899, 2);
        Check.library(x, Check.times(888, " ") + "reader aa 09;", -901, 1);
    }

    /** "the first along the text": of two FAULTS the one that is ahead, whatever its kind. */
    private static void firstOfMany() {
        SequelShelf x = new SequelShelf();
        Check.library(x, "book a 100 10;", -8, 2);
        Check.library(x, "book a 1 1;reader a 31;", -19, 3);
        Check.library(x, "book a 1 1;reader a 1;after a a;", -19, 3);
        Check.library(x, "fine 5;fine 31;book", -8, 3);
        Check.library(x, "fine 31;fine 5;", -6, 2);
        Check.library(x, "book a 1 1 book b 100 1;", -12, 1);
        Check.library(x, "after x y;", -7, 3);
        Check.library(x, "book a 1 1;after a x y;", -20, 3);
        Check.library(x, "book a 1 1;after x a.", -18, 3);
        String eight = "";
        for (int i = 0; i < 8; i++) {
            eight += "book " + (char) ('a' + i) + " 1 1;";
        }
        Check.library(x, eight + "book a 100 10 #", -89, 4);
        Check.library(x, eight + "fine 31;book i 1 1;", -94, 2);
        Check.library(x, eight + "fine 3;;book i 1 1;", -96, 1);
        Check.library(x, eight + "book i 1 1;" + Check.times(820, " "), -89, 4);
    }

    private static void whatANewLibraryIs() {
        SequelShelf x = Check.shelf("book a 5 2;book b 5 2;after b a;reader p 5;reader q 1;");
        x.lend(0, 0);
        x.lend(1, 0);
        x.days(1);
        x.back(1);
        x.forge(1);
        Check.put(x, "idle");
        x.sentence();
        Check.library(x, "book a 5 2;book b 5 2;after b a;reader p 5;reader q 1;", 5, 0);
        for (int what = 0; what < 8; what++) {
            Check.same("now(" + what + ")", x.now(what), 0);
        }
        Check.same("copies in", x.book(0, 1), 2);
        Check.same("fines", x.reader(1, 3), 0);
        Check.same("READ", x.reader(0, 4), 0);
        Check.same("no SENTENCE", x.said(-1), -1);
        Check.same("nothing to undo", x.undo(), -1);
    }

    /** "all copies in": a READER of the same number has none in a new LIBRARY. */
    private static void aBookThatIsOut() {
        SequelShelf x = Check.shelf("book a 50 1;book b 50 2;after b a;reader p 5;reader q 1;");
        x.lend(0, 0);
        x.forge(1);
        x.lend(1, 1);
        x.days(1);
        Check.library(x, "book a 50 1;book b 50 2;reader p 5;reader q 1;", 4, 0);
        for (int r = 0; r < 2; r++) {
            Check.same("no BOOK", x.reader(r, 1), -1);
            Check.same("nothing left", x.reader(r, 2), 0);
            Check.same("nothing READ", x.reader(r, 4), 0);
            Check.same("both can be LENT", x.reader(r, 5), 3);
            Check.same("out", x.book(r, 2), 0);
            Check.same("in", x.book(r, 1), r + 1);
            Check.same("FORGED", x.book(r, 3), 0);
            Check.same("AFTER", x.book(r, 4), 0);
            Check.same("READ by", x.book(r, 5), 0);
        }
        Check.same("pages READ so far", x.now(6), 0);
        Check.same("lend", x.lend(0, 0), 0);
        Check.library(x, "", 0, 0);
        Check.same("out", x.now(1), 0);
    }

    /** What the LIBRARY ahead had more of is nowhere in this one. */
    private static void smallerLibrary() {
        SequelShelf x = Check.shelf("book a 9 9;book b 9 9;book c 9 9;after b c;after c b;"
                + "reader p 9;reader q 9;reader r 9;fine 9;");
        x.lend(2, 0);
        x.days(1);
        x.lend(2, 0);
        x.forge(2);
        x.lend(2, 2);
        x.back(2);
        Check.library(x, "book b 1 1;reader q 1;", 2, 0);
        Check.same("'after'", x.count(1), 0);
        Check.same("'fine'", x.count(3), 5);
        Check.same("AFTER", x.book(0, 4), 0);
        Check.same("can be LENT", x.reader(0, 5), 1);
        Check.same("EVER", x.reader(0, 6), 1);
        Check.same("RINGS", x.now(7), 0);
        Check.same("FINED", x.now(4), 0);
        Check.same("cut()", x.cut(), 0);
        Check.same("atOnce()", x.atOnce(), 1);
        Check.same("atOnceOf(1)", x.atOnceOf(1), -1);
        Check.sentence(x, "has a", -1 - 4, 3);
        Check.sentence(x, "has b", 1, 0);
        Check.same("said(-1)", x.said(-1), 0);
        Check.record(x, "r lends b;", 0, -2, 3);
        Check.record(x, "q lends c;", 0, -2 - 8, 3);
        Check.record(x, "q lends b;day 1;", 0, -1, 0);
        Check.same("told(3)", x.told(3), 1);
        Check.library(x, "reader q 1;", 1, 0);
        Check.same("done of no BOOKS", said(x, "done"), 1);
        Check.same("can be LENT", x.reader(0, 5), 0);
        Check.same("EVER", x.reader(0, 6), 0);
        Check.same("atOnce()", x.atOnce(), 0);
    }

    private static int said(SequelShelf x, String sentence) {
        Check.sentence(x, sentence, 1, 0);
        return x.said(-1);
    }

    /** As many as there may be of each sort: the last ones are as good as the first. */
    private static void fullLibrary() {
        StringBuilder text = new StringBuilder();
        for (int b = 0; b < 8; b++) {
            text.append("book ").append((char) ('a' + b)).append(" 30 9;");
        }
        for (int r = 0; r < 6; r++) {
            text.append("reader ").append((char) ('p' + r)).append(" 30;");
        }
        text.append("after h g;after g h;");
        SequelShelf x = new SequelShelf();
        Check.library(x, text.toString(), 16, 0);
        Check.same("can be LENT", x.reader(5, 5), 63);
        Check.same("RINGS", x.now(7), 192);
        Check.same("ring(7)", x.ring(7), 2);
        Check.same("ringAt(1)", x.ringAt(1), 6);
        Check.same("forge", x.forge(7), 0);
        Check.same("FORGED", x.now(2), 128);
        Check.same("can be LENT", x.reader(5, 5), 191);
        Check.same("EVER", x.reader(5, 6), 255);
        Check.same("atOnce()", x.atOnce(), 6);
        Check.same("atOnceOf(5)", x.atOnceOf(5), 0);
        Check.same("way(5, 6)", x.way(5, 6), 2);
        Check.same("wayAt(0)", x.wayAt(0), 7);
        Check.same("lend", x.lend(5, 7), 0);
        Check.text("slip(5)", Check.slip(x, 5), "u has h 30");
        Check.same("out", x.book(7, 2), 1);
        Check.same("days", x.days(1), 1);
        Check.same("READ", x.reader(5, 4), 128);
        Check.same("READ by", x.book(7, 5), 32);
        Check.same("READ by somebody", x.now(3), 128);
        Check.same("tell", x.tell(5, 7, 0), 0);
        Check.same("READ by", x.book(7, 5), 33);
        Check.same("lend", x.lend(5, 6), 0);
        Check.same("back", x.back(5), 0);
        Check.same("FINED", x.now(4), 32);
        Check.same("said", said(x, "fined"), 1);
        Check.same("said(0)", x.said(0), 5);
        Check.same("odds", x.odds(5, 7, 30, 1), 30);
        Check.mean(x, 7, 30, 1);
        Check.mean(x, 6, 30, 1);
        Check.same("deep(6)", x.deep(6), 1);
    }

    private static void whatStays() {
        SequelShelf x = Check.shelf("book a 5 2;reader p 5;fine 9;");
        x.lend(0, 0);
        Check.sentence(x, "has a", 1, 0);
        Check.library(x, "book b 1 1;book c 1 1;reader q 7;fine 3; x", -42, 1);
        Check.same("count(0)", x.count(0), 1);
        Check.same("count(2)", x.count(2), 1);
        Check.same("count(3)", x.count(3), 9);
        Check.same("pages", x.book(0, 0), 5);
        Check.same("has", x.reader(0, 1), 0);
        Check.same("said(-1)", x.said(-1), 1);
        Check.text("slip", Check.slip(x, 0), "p has a 5");
        Check.same("undo()", x.undo(), 0);
        Check.library(x, "", 0, 0);
        Check.same("count(0)", x.count(0), 0);
    }
}
