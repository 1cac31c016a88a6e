/** Promises 39 and 40: images. */
final class ImageTest {
    private static final String LIBRARY = "book a 10 2;book b 8 1;after b a;reader p 5;reader q 10;fine 3;";

    public static void main(String[] args) {
        places();
        kept();
        keptAgain();
        otherLibrary();
        whatStays();
        Check.finish();
    }

    private static void places() {
        SequelShelf x = Check.shelf(LIBRARY);
        for (int k : new int[] {-1, 2, Integer.MIN_VALUE, Integer.MAX_VALUE}) {
            Check.no("image(" + k + ")", x.image(k));
            Check.no("restore(" + k + ")", x.restore(k));
        }
        Check.no("nothing is kept", x.restore(0));
        Check.no("nothing is kept", x.restore(1));
        Check.yes("image(1)", x.image(1));
        Check.no("nothing is kept", x.restore(0));
        Check.yes("restore(1)", x.restore(1));
        Check.yes("again", x.restore(1));
    }

    private static void kept() {
        SequelShelf x = Check.shelf(LIBRARY);
        x.lend(0, 0);
        x.lend(1, 0);
        x.days(1);
        x.forge(1);
        x.back(0);
        Check.sentence(x, "idle", 1, 0);
        Check.yes("image(0)", x.image(0));
        Check.same("an image is no act", x.undo(), 4);
        Check.same("the undone is not in the image", x.reader(0, 1), 0);
        x.mend(1);
        x.days(60);
        x.burn(0);
        Check.sentence(x, "has a", 1, 0);
        Check.yes("image(1)", x.image(1));
        Check.yes("restore(0)", x.restore(0));
        Check.same("nothing can be undone", x.undo(), -1);
        Check.same("DAY", x.now(0), 1);
        Check.same("FORGED", x.now(2), 2);
        Check.same("fines", x.reader(0, 3), 3);
        Check.same("READ", x.reader(1, 4), 1);
        Check.same("BOOKS READ", x.now(5), 1);
        Check.same("pages READ", x.now(6), 15);
        Check.same("in", x.book(0, 1), 2);
        Check.same("the SENTENCE", x.said(-1), 2);
        x.lend(0, 0);
        Check.yes("restore(1)", x.restore(1));
        Check.same("DAY", x.now(0), 61);
        Check.same("FORGED", x.now(2), 0);
        Check.same("in", x.book(0, 1), 1);
        Check.same("the SENTENCE", x.said(-1), 0);
        Check.yes("restore(0)", x.restore(0));
        Check.same("what came later is not in it", x.reader(0, 1), -1);
        x.lend(0, 0);
        Check.same("acts can be undone again", x.undo(), 0);
    }

    /** A place keeps what came last into it, and the other place what it had. */
    private static void keptAgain() {
        SequelShelf x = Check.shelf(LIBRARY);
        Check.yes("image(0)", x.image(0));
        x.days(1);
        Check.yes("image(1)", x.image(1));
        x.days(1);
        Check.yes("image(0) again", x.image(0));
        x.days(1);
        Check.sentence(x, "idle", 1, 0);
        Check.yes("restore(0)", x.restore(0));
        Check.same("DAY", x.now(0), 2);
        Check.same("no SENTENCE was kept", x.said(-1), -1);
        Check.yes("restore(1)", x.restore(1));
        Check.same("DAY", x.now(0), 1);
        x.days(1);
        x.image(0);
        x.undo();
        Check.same("what is undone is so no more", x.now(0), 1);
        x.restore(0);
        Check.same("but it was kept", x.now(0), 2);
        Check.same("nothing can be undone", x.undo(), -1);
        Check.library(x, "reader y 1;", 1, 0);
        Check.yes("a new LIBRARY leaves the places", x.restore(1));
        Check.same("DAY", x.now(0), 1);
        Check.same("READERS", x.count(2), 2);
    }

    private static void otherLibrary() {
        SequelShelf x = new SequelShelf();
        Check.yes("image(0)", x.image(0));
        Check.put(x, LIBRARY);
        x.library();
        x.image(1);
        Check.put(x, "book z 99 1;reader y 1;");
        x.library();
        Check.sentence(x, "has z", 1, 0);
        Check.yes("restore(1)", x.restore(1));
        Check.same("BOOKS", x.count(0), 2);
        Check.same("'after'", x.count(1), 1);
        Check.same("READERS", x.count(2), 2);
        Check.same("'fine'", x.count(3), 3);
        Check.same("PAGES", x.book(0, 0), 10);
        Check.same("AFTER", x.book(1, 4), 1);
        Check.same("PACE", x.reader(1, 0), 10);
        Check.same("no SENTENCE", x.said(-1), -1);
        Check.text("NAMES", Check.slip(x, 1), "q idle");
        Check.record(x, "q lends a;", 1, -1, 0);
        Check.yes("restore(0)", x.restore(0));
        Check.same("BOOKS", x.count(0), 0);
        Check.same("'fine'", x.count(3), 5);
        Check.same("no such BOOK", x.book(0, 0), -1);
    }

    private static void whatStays() {
        SequelShelf x = Check.shelf(LIBRARY);
        x.image(0);
        Check.put(x, "book z 99 1;book y 9 1;after z y;after y z;reader x 1;reader w 1;reader v 9;");
        x.library();
        x.slip(0);
        x.ring(0);
        x.cut();
        x.forge(0);
        x.way(0, 1);
        x.atOnce();
        Check.record(x, "v returns;", 0, 0, 0);
        Check.put(x, new byte[] {1, 1, 0, 0});
        x.fits();
        Check.sentence(x, "x", -1, 1);
        Check.put(x, "day 1;");
        x.restore(0);
        Check.same("the tape", x.count(4), 6);
        Check.same("fault()", x.fault(), 1);
        Check.same("told(0)", x.told(0), 11);
        Check.same("byteAt(0)", x.byteAt(0), 'x');
        Check.same("ringAt(1)", x.ringAt(1), 1);
        Check.same("cutting()", x.cutting(), 1);
        Check.same("wayAt(0)", x.wayAt(0), 0);
        Check.same("wayAt(1)", x.wayAt(1), 1);
        Check.same("atOnceOf(0)", x.atOnceOf(0), 0);
        Check.same("fitting()", x.fitting(), 1);
        Check.same("ask()", x.ask(), 0);
    }
}
