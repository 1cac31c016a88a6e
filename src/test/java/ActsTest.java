/** Promises 9 to 17: acts, days, and undoing them. */
final class ActsTest {
    private static final String LIBRARY = "book a 10 1;book b 8 1;book c 99 2;after b a;"
            + "reader p 5;reader q 7;reader r 30;fine 30;";
    private static final int[] NOT_THREE = {-1, 3, Integer.MIN_VALUE, Integer.MAX_VALUE};

    public static void main(String[] args) {
        lend();
        back();
        tell();
        whyTheLeast();
        forgeAndMend();
        burnAndBuy();
        days();
        fines();
        oneDay();
        oneOwed();
        mostFines();
        lastDay();
        undo();
        undoEach();
        undoEachAlone();
        refusedActsCostNothing();
        Check.finish();
    }

    private static void lend() {
        SequelShelf x = Check.shelf(LIBRARY);
        Check.same("not FIT", x.lend(0, 1), 3);
        Check.same("lend", x.lend(0, 0), 0);
        Check.same("he has one, ahead of all", x.lend(0, 1), 1);
        Check.same("he has that one", x.lend(0, 0), 1);
        Check.same("no copy", x.lend(1, 0), 4);
        Check.same("not FIT goes ahead of no copy", burnt(x, 1).lend(1, 1), 3);
        Check.same("all PAGES are left", x.reader(0, 2), 10);
        x.days(2);
        Check.same("he has READ it", x.lend(0, 0), 2);
        Check.same("READ goes ahead of no copy", burnt(x, 0).lend(0, 0), 2);
        x.buy(1);
        Check.same("FIT now", x.lend(0, 1), 0);
        Check.same("copies out", x.book(1, 2), 1);
        Check.same("copies in", x.book(1, 1), 0);
        for (int none : NOT_THREE) {
            Check.same("no such READER", x.lend(none, 0), -1);
            Check.same("no such BOOK", x.lend(0, none), -1);
        }
        x = Check.shelf("book a 10 1;book b 8 1;after b a;reader p 8;");
        x.forge(1);
        Check.same("FIT for a FORGED one", x.lend(0, 1), 0);
        x.days(1);
        x.mend(1);
        Check.same("READ goes ahead of not FIT", x.lend(0, 1), 2);
    }

    private static SequelShelf burnt(SequelShelf x, int b) {
        while (x.burn(b) == 0) {
            Check.yes("copies end", x.book(b, 1) >= 0);
        }
        return x;
    }

    private static void back() {
        SequelShelf x = Check.shelf(LIBRARY);
        Check.same("he has none", x.back(0), 1);
        int[] fines = {30, 60, 90, 99, 99};
        for (int fine : fines) {
            x.lend(0, 2);
            Check.same("back", x.back(0), 0);
            Check.same("fines", x.reader(0, 3), fine);
        }
        Check.same("copies in", x.book(2, 1), 2);
        Check.same("no BOOK", x.reader(0, 1), -1);
        Check.same("not READ", x.reader(0, 4), 0);
        for (int none : NOT_THREE) {
            Check.same("no such READER", x.back(none), -1);
        }
        x = Check.shelf("book a 1 1;reader p 1;");
        x.lend(0, 0);
        x.back(0);
        Check.same("5 without a 'fine'", x.reader(0, 3), 5);
        x = Check.shelf("book a 1 1;reader p 1;fine 0;");
        x.lend(0, 0);
        Check.same("back", x.back(0), 0);
        Check.same("no fine", x.reader(0, 3), 0);
        Check.same("not FINED", x.now(4), 0);
    }

    private static void tell() {
        SequelShelf x = Check.shelf(LIBRARY);
        Check.same("alike goes ahead", x.tell(0, 0, 0), 1);
        Check.same("not READ", x.tell(0, 0, 1), 2);
        x.lend(2, 0);
        x.days(1);
        x.lend(2, 1);
        x.days(1);
        Check.same("the other one is not FIT", x.tell(2, 1, 0), 4);
        Check.same("he has not READ it, the other one has", x.tell(0, 0, 2), 2);
        x.lend(0, 0);
        Check.same("the other one has it", x.tell(2, 0, 0), 4);
        Check.same("tell", x.tell(2, 0, 1), 0);
        Check.same("READ", x.reader(1, 4), 1);
        Check.same("the other one has READ it", x.tell(2, 0, 1), 3);
        Check.same("FIT by what was told", x.tell(2, 1, 1), 0);
        Check.same("READ", x.reader(1, 4), 3);
        x.back(0);
        x.lend(0, 2);
        Check.same("he has another one", x.tell(1, 0, 0), 0);
        Check.same("he has it still", x.reader(0, 1), 2);
        Check.same("alike goes ahead of READ", x.tell(2, 0, 2), 1);
        for (int none : NOT_THREE) {
            Check.same("no such READER", x.tell(none, 0, 0), -1);
            Check.same("no such BOOK", x.tell(0, none, 1), -1);
            Check.same("no such other", x.tell(0, 0, none), -1);
        }
        x = Check.shelf(LIBRARY);
        x.forge(1);
        x.lend(2, 1);
        x.days(1);
        Check.same("a FORGED one", x.tell(2, 1, 0), 0);
        x.mend(1);
        Check.same("a mended one", x.tell(2, 1, 1), 4);
    }

    /** "why not, the least": each one with all that are behind it, too. */
    private static void whyTheLeast() {
        SequelShelf x = Check.shelf("book a 9 1;book b 9 1;book c 9 9;after b a;"
                + "reader p 9;reader q 9;reader r 9;fine 0;");
        x.forge(1);
        x.lend(0, 1);
        x.days(1);
        x.lend(2, 1);
        x.days(1);
        x.mend(1);
        x.burn(1);
        x.lend(0, 2);
        // p and r have READ b, are not FIT for it any more, and no copy of it is in.
        Check.same("he has one", x.lend(0, 1), 1);
        x.back(0);
        Check.same("he has READ it", x.lend(0, 1), 2);
        Check.same("he is not FIT for it", x.lend(1, 1), 3);
        Check.same("they are alike, and he has not READ it", x.tell(1, 1, 1), 1);
        Check.same("they are alike, and he has READ it", x.tell(0, 1, 0), 1);
        Check.same("he has not READ it, the other one has", x.tell(1, 1, 0), 2);
        Check.same("the other one has READ it", x.tell(0, 1, 2), 3);
        Check.same("the other one is not FIT for it", x.tell(0, 1, 1), 4);
        x.lend(1, 0);
        x.days(1);
        Check.same("he is FIT now, no copy is in", x.lend(1, 1), 4);
        x.buy(1);
        Check.same("lend", x.lend(1, 1), 0);
        Check.same("the other one is FIT for it, but has it", x.tell(0, 1, 1), 4);
        x.back(1);
        Check.same("tell", x.tell(0, 1, 1), 0);
        Check.same("AFTER none, not FORGED", x.forge(0), 2);
        Check.same("forge", x.forge(1), 0);
        Check.same("it is FORGED", x.forge(1), 1);
    }

    private static void forgeAndMend() {
        SequelShelf x = Check.shelf(LIBRARY);
        Check.same("AFTER none", x.forge(0), 2);
        Check.same("mend", x.mend(1), 1);
        Check.same("forge", x.forge(1), 0);
        Check.same("FORGED", x.forge(1), 1);
        Check.same("FIT", x.reader(0, 5), 7);
        Check.same("mend", x.mend(1), 0);
        Check.same("mended", x.mend(1), 1);
        Check.same("not FIT", x.reader(0, 5), 5);
        Check.same("mend one that is AFTER none", x.mend(0), 1);
        for (int none : NOT_THREE) {
            Check.same("no such BOOK", x.forge(none), -1);
            Check.same("no such BOOK", x.mend(none), -1);
        }
    }

    private static void burnAndBuy() {
        SequelShelf x = Check.shelf("book a 99 8;book b 9 0;reader p 1;reader q 1;");
        Check.same("none in", x.burn(1), 1);
        Check.same("buy", x.buy(1), 0);
        Check.same("in", x.book(1, 1), 1);
        Check.same("burn", x.burn(1), 0);
        Check.same("in", x.book(1, 1), 0);
        Check.same("buy", x.buy(0), 0);
        Check.same("9 are in", x.buy(0), 1);
        x.lend(0, 0);
        x.lend(1, 0);
        Check.same("7 are in", x.buy(0), 0);
        Check.same("8 are in", x.buy(0), 0);
        Check.same("9 are in", x.buy(0), 1);
        x.back(0);
        x.back(1);
        Check.same("in", x.book(0, 1), 11);
        Check.same("9 or more", x.buy(0), 1);
        Check.same("burn", x.burn(0), 0);
        Check.same("9 or more", x.buy(0), 1);
        x.burn(0);
        x.burn(0);
        Check.same("8 are in", x.buy(0), 0);
        for (int none : new int[] {-1, 2, Integer.MIN_VALUE, Integer.MAX_VALUE}) {
            Check.same("no such BOOK", x.burn(none), -1);
            Check.same("no such BOOK", x.buy(none), -1);
        }
        x = Check.shelf("book a 99 1;reader p 1;");
        x.lend(0, 0);
        Check.same("one is out, none is in", x.burn(0), 1);
    }

    private static void days() {
        SequelShelf x = Check.shelf(LIBRARY);
        for (int n : new int[] {0, -1, 61, Integer.MIN_VALUE, Integer.MAX_VALUE}) {
            Check.same("days", x.days(n), -1);
        }
        Check.same("DAY", x.now(0), 0);
        x.lend(0, 0);
        x.lend(1, 2);
        Check.same("days", x.days(1), 1);
        Check.same("left", x.reader(0, 2), 5);
        Check.same("left", x.reader(1, 2), 92);
        Check.same("days", x.days(1), 1);
        Check.same("READ", x.reader(0, 4), 1);
        Check.same("none any more", x.reader(0, 1), -1);
        Check.same("left", x.reader(0, 2), 0);
        Check.same("in", x.book(0, 1), 1);
        Check.same("pages", x.now(6), 24);
        x.lend(2, 0);
        Check.same("days", x.days(60), 60);
        Check.same("he READS no more than there is", x.now(6), 10 + 99 + 10);
        Check.same("BOOKS", x.now(5), 3);
        Check.same("DAY", x.now(0), 62);
    }

    private static void fines() {
        SequelShelf x = Check.shelf("book a 10 2;reader p 7;fine 10;");
        x.lend(0, 0);
        x.back(0);
        x.lend(0, 0);
        x.days(1);
        Check.same("fines first", x.reader(0, 3), 3);
        Check.same("left", x.reader(0, 2), 10);
        x.days(1);
        Check.same("fines", x.reader(0, 3), 0);
        Check.same("what is left of the PACE", x.reader(0, 2), 6);
        Check.same("pages", x.now(6), 14);
        x.days(1);
        Check.same("READ", x.reader(0, 4), 1);
        Check.same("pages", x.now(6), 20);
    }

    private static int oneDayOf(int fines, int pages, int left, int owes) {
        SequelShelf x = Check.shelf("book z 99 1;book a " + pages + " 1;reader p 10;fine " + fines + ";");
        x.lend(0, 0);
        x.back(0);
        x.lend(0, 1);
        Check.same("days", x.days(1), 1);
        Check.same("left", x.reader(0, 2), left);
        Check.same("owes", x.reader(0, 3), owes);
        Check.same("READ at 0", x.reader(0, 4), left == 0 ? 2 : 0);
        Check.same("he has it until 0", x.reader(0, 1), left == 0 ? -1 : 1);
        Check.same("the copy is in at 0", x.book(1, 1), left == 0 ? 1 : 0);
        Check.same("BOOKS READ", x.now(5), left == 0 ? 1 : 0);
        return x.now(6);
    }

    /** A PACE of 10 against fines and PAGES that are as many, one less, one more. */
    private static void oneDay() {
        Check.same("pages READ", oneDayOf(0, 11, 1, 0), 10);
        Check.same("pages READ", oneDayOf(0, 10, 0, 0), 10);
        Check.same("pages READ", oneDayOf(0, 9, 0, 0), 9);
        Check.same("pages READ", oneDayOf(0, 1, 0, 0), 1);
        Check.same("pages READ", oneDayOf(1, 9, 0, 0), 10);
        Check.same("pages READ", oneDayOf(1, 10, 1, 0), 10);
        Check.same("pages READ", oneDayOf(9, 1, 0, 0), 10);
        Check.same("pages READ", oneDayOf(9, 2, 1, 0), 10);
        Check.same("pages READ", oneDayOf(10, 1, 1, 0), 10);
        Check.same("pages READ", oneDayOf(11, 1, 1, 1), 10);
        Check.same("pages READ", oneDayOf(30, 99, 99, 20), 10);
    }

    /** One page of fines is the least for which one is FINED. */
    private static void oneOwed() {
        SequelShelf x = Check.shelf("book a 9 2;reader p 1;reader q 2;reader r 1;fine 1;");
        x.lend(2, 0);
        x.back(2);
        Check.same("FINED", x.now(4), 4);
        x.lend(0, 0);
        x.back(0);
        Check.same("FINED, as bits", x.now(4), 5);
        Check.text("slip", Check.slip(x, 0), "p idle owes 1");
        Check.sentence(x, "fined", 1, 0);
        Check.same("said", x.said(-1), 2);
        Check.same("said", x.said(1), 2);
        x.days(1);
        Check.same("FINED no more", x.now(4), 0);
        Check.text("slip", Check.slip(x, 0), "p idle");
        Check.same("said", x.said(-1), 0);
    }

    private static void mostFines() {
        SequelShelf x = Check.shelf("book a 99 1;reader p 1;reader q 1;fine 14;");
        for (int times = 1; times <= 9; times++) {
            x.lend(0, 0);
            Check.same("back", x.back(0), 0);
            Check.same("99 at most", x.reader(0, 3), times == 8 || times == 9 ? 99 : 14 * times);
        }
        x.days(1);
        Check.same("98", x.reader(0, 3), 98);
        x.lend(0, 0);
        x.back(0);
        Check.same("99 again", x.reader(0, 3), 99);
        x = Check.shelf("book a 99 1;reader p 1;fine 11;");
        for (int times = 1; times <= 9; times++) {
            x.lend(0, 0);
            x.back(0);
        }
        Check.same("99 without being cut", x.reader(0, 3), 99);
    }

    private static void lastDay() {
        SequelShelf x = Check.shelf(LIBRARY);
        for (int i = 0; i < 6; i++) {
            Check.same("days", x.days(60), 60);
        }
        Check.same("days", x.days(30), 30);
        Check.same("undo", x.undo(), 6);
        Check.same("days", x.days(30), 30);
        Check.same("the last ones", x.days(11), 10);
        Check.same("DAY", x.now(0), 400);
        Check.same("none is left", x.days(1), 0);
        Check.same("drawn", x.drawn(5, 1), 0);
        Check.same("still not as told", x.days(61), -1);
        Check.same("acts go on", x.lend(0, 0), 0);
        Check.same("8 were done, days() of 0 were not", x.undo(), 7);
        Check.same("undo", x.undo(), 6);
        Check.same("DAY", x.now(0), 390);
    }

    private static void undo() {
        SequelShelf x = Check.shelf(LIBRARY);
        Check.same("none", x.undo(), -1);
        for (int i = 0; i < 9; i++) {
            x.buy(2);
            x.burn(2);
            x.buy(1);
        }
        Check.same("b is at 9", x.book(1, 1), 9);
        x.days(3);
        for (int more = 7; more >= 0; more--) {
            Check.same("undo", x.undo(), more);
        }
        Check.same("no more are kept", x.undo(), -1);
        Check.same("DAY", x.now(0), 0);
        Check.same("acts that were refused are none", x.book(1, 1), 7);
    }

    private static void undoEach() {
        SequelShelf x = Check.shelf(LIBRARY);
        String ahead = image(x);
        x.lend(2, 0);
        ahead = undone(x, ahead);
        x.lend(2, 0);
        ahead = image(x);
        x.back(2);
        ahead = undone(x, ahead);
        x.days(1);
        undone(x, ahead);
        x.days(1);
        ahead = image(x);
        x.tell(2, 0, 0);
        undone(x, ahead);
        x.forge(1);
        undone(x, ahead);
        x.forge(1);
        ahead = image(x);
        x.mend(1);
        undone(x, ahead);
        x.burn(0);
        undone(x, ahead);
        x.buy(0);
        undone(x, ahead);
        x.drawn(30, 99);
        undone(x, ahead);
        Check.record(x, "p lends c;day 2;", 1, -1, 0);
        Check.same("lived", x.now(0), 3);
        undone(x, ahead);
        Check.record(x, "p lends c;p lends c;", 1, 1, 0);
        undone(x, ahead);
        int more = x.undo();
        Check.record(x, "p returns;day 1;", 1, 0, 0);
        Check.record(x, "day 1;", 0, -1, 0);
        Check.record(x, "", 1, -1, 0);
        Check.sentence(x, "idle", 1, 0);
        Check.same("none of these is undone", x.undo(), more - 1);
        Check.same("the SENTENCE stays", x.said(-1), 3 - x.now(1));
    }

    /** Each act as the only one that can be undone, so that no other one can have kept what was so. */
    private static void undoEachAlone() {
        for (int act = 0; act < 10; act++) {
            SequelShelf x = Check.shelf("book a 10 1;book b 8 1;book c 99 2;book d 9 1;after b a;after d c;"
                    + "reader p 5;reader q 7;reader r 30;fine 30;");
            x.lend(2, 0);
            x.days(1);
            x.forge(1);
            x.lend(0, 1);
            x.image(0);
            x.restore(0);
            String ahead = image(x);
            Check.same("nothing to undo", x.undo(), -1);
            Check.yes("act " + act + " is done", oneAct(x, act));
            Check.no("something changed by act " + act, image(x).equals(ahead));
            Check.same("undo() of act " + act, x.undo(), 0);
            Check.text("what is so ahead of act " + act, image(x), ahead);
            Check.same("no more", x.undo(), -1);
        }
    }

    private static boolean oneAct(SequelShelf x, int act) {
        switch (act) {
            case 0: return x.lend(1, 2) == 0;
            case 1: return x.back(0) == 0;
            case 2: return x.tell(2, 0, 1) == 0;
            case 3: return x.forge(3) == 0;
            case 4: return x.mend(1) == 0;
            case 5: return x.burn(0) == 0;
            case 6: return x.buy(2) == 0;
            case 7: return x.days(1) == 1;
            case 8: return x.drawn(1, 0) == 1;
            default: Check.put(x, "q lends c;forge d;day 1;p returns;p returns;");
                return x.record(1) == 4;
        }
    }

    private static String undone(SequelShelf x, String ahead) {
        Check.yes("something changed", !image(x).equals(ahead));
        Check.yes("undo", x.undo() >= 0);
        Check.text("what is so", image(x), ahead);
        return ahead;
    }

    private static String image(SequelShelf x) {
        StringBuilder all = new StringBuilder();
        for (int what = 0; what < 8; what++) {
            all.append(x.now(what)).append(' ');
            for (int i = 0; i < 3; i++) {
                all.append(x.book(i, what)).append(' ');
                all.append(what < 7 ? x.reader(i, what) : 0).append(' ');
            }
        }
        return all.toString();
    }

    private static void refusedActsCostNothing() {
        SequelShelf x = Check.shelf("book a 9 0;reader p 1;");
        for (int i = 0; i < 8; i++) {
            x.buy(0);
        }
        x.lend(0, 0);
        for (int i = 0; i < 20; i++) {
            x.lend(0, 0);
            x.tell(0, 0, 0);
            x.mend(0);
        }
        for (int more = 7; more >= 0; more--) {
            Check.same("undo", x.undo(), more);
        }
        Check.same("the oldest of eight is there", x.book(0, 1), 1);
    }
}
