/** Every promise that says NONE, false or an exception for "no such one": and then nothing changes. */
final class NoSuchTest {
    // Next to what there is, where bits wrap around, and the ends of all numbers.
    private static final int[] ODD = {-1, -2, -31, -32, -33, -64, 31, 32, 33, 38, 40, 63, 64, 65, 256, 1000,
        1 << 16, 1 << 30, -1 << 30, Integer.MIN_VALUE, Integer.MIN_VALUE + 1, Integer.MAX_VALUE - 1,
        Integer.MAX_VALUE};
    private static final int MOST_THAT_THERE_IS = 8;

    public static void main(String[] args) {
        all(new SequelShelf(), 0);
        all(Check.shelf("book a 1 1;"), 0);
        all(Check.shelf("reader p 1;"), 0);
        all(busy(3, 2), 6);
        all(busy(8, 6), 6);
        SequelShelf x = busy(8, 6);
        Check.put(x, "book a 9 1;book b 9 1;reader p 3;");
        x.library();
        all(x, 0);
        Check.finish();
    }

    /** BOOKS that are each AFTER the one ahead, some of it lent, READ, owed and told. */
    private static SequelShelf busy(int books, int readers) {
        StringBuilder text = new StringBuilder();
        for (int b = 0; b < books; b++) {
            text.append("book ").append((char) ('a' + b)).append(" 9 3;");
            text.append(b > 0 ? "after " + (char) ('a' + b) + " " + (char) ('a' + b - 1) + ";" : "");
        }
        text.append("after a ").append((char) ('a' + books - 1)).append(";");
        for (int r = 0; r < readers; r++) {
            text.append("reader ").append((char) ('p' + r)).append(" 3;");
        }
        SequelShelf x = Check.shelf(text.toString());
        x.ring(0);
        x.cut();
        x.forge(0);
        x.lend(0, 0);
        x.days(3);
        x.lend(readers - 1, 0);
        x.way(0, books - 1);
        x.atOnce();
        Check.put(x, new byte[] {1, 1, 2, 0});
        x.fits();
        Check.record(x, "p returns;", 0, 0, 0);
        Check.sentence(x, "idle or not idle", 3, 0);
        x.lend(0, 1);
        x.back(0);
        x.slip(0);
        Check.put(x, "day 1;");
        return x;
    }

    private static void all(SequelShelf x, int acts) {
        String ahead = Check.whole(x);
        for (int i = 0; i < ODD.length + 2 * MOST_THAT_THERE_IS; i++) {
            int odd = i < ODD.length ? ODD[i] : i - ODD.length;
            if (odd < 0 || odd >= x.count(0)) {
                noBook(x, odd);
            }
            if (odd < 0 || odd >= x.count(2)) {
                noReader(x, odd);
            }
            noWhat(x, odd);
            noNumber(x, odd);
            noPlace(x, odd);
        }
        Check.text("what is so, and what was told last", Check.whole(x), ahead);
        Check.same("acts that can be undone", x.undo(), acts - 1);
    }

    private static void noBook(SequelShelf x, int b) {
        for (int what = -1; what < 7; what++) {
            Check.same("book(" + b + ", " + what + ")", x.book(b, what), -1);
        }
        Check.same("forge(" + b + ")", x.forge(b), -1);
        Check.same("mend(" + b + ")", x.mend(b), -1);
        Check.same("burn(" + b + ")", x.burn(b), -1);
        Check.same("buy(" + b + ")", x.buy(b), -1);
        Check.same("ring(" + b + ")", x.ring(b), -1);
        Check.same("deep(" + b + ")", x.deep(b), -1);
        Check.meanThrows(x, b, 0);
        Check.meanThrows(x, b, 1);
        for (int r = -1; r <= x.count(2); r++) {
            Check.same("lend(" + r + ", " + b + ")", x.lend(r, b), -1);
            Check.same("way(" + r + ", " + b + ")", x.way(r, b), -1);
            Check.same("odds(" + r + ", " + b + ")", x.odds(r, b, 1, 1), -1);
            Check.same("tell(" + r + ", " + b + ")", x.tell(r, b, 0), -1);
            Check.same("tell(" + r + ", " + b + ")", x.tell(r, b, r), -1);
        }
    }

    private static void noReader(SequelShelf x, int r) {
        for (int what = -1; what < 8; what++) {
            Check.readerThrows(x, r, what);
        }
        Check.same("back(" + r + ")", x.back(r), -1);
        Check.same("slip(" + r + ")", x.slip(r), -1);
        for (int b = -1; b <= x.count(0); b++) {
            Check.same("lend(" + r + ", " + b + ")", x.lend(r, b), -1);
            Check.same("way(" + r + ", " + b + ")", x.way(r, b), -1);
            Check.same("odds(" + r + ", " + b + ")", x.odds(r, b, 1, 1), -1);
            Check.same("tell(" + r + ", " + b + ", 0)", x.tell(r, b, 0), -1);
            Check.same("tell(0, " + b + ", " + r + ")", x.tell(0, b, r), -1);
            Check.same("tell(" + r + ", " + b + ", " + r + ")", x.tell(r, b, r), -1);
        }
    }

    private static void noWhat(SequelShelf x, int what) {
        if (what < 0 || what > 4) {
            Check.same("count(" + what + ")", x.count(what), -1);
        }
        if (what < 0 || what > 7) {
            Check.same("now(" + what + ")", x.now(what), -1);
        }
        if (what < 0 || what > 3) {
            Check.same("told(" + what + ")", x.told(what), -1);
        }
        for (int r = 0; r < x.count(2) && (what < 0 || what > 6); r++) {
            Check.readerThrows(x, r, what);
        }
        for (int b = 0; b < x.count(0); b++) {
            if (what < 0 || what > 5) {
                Check.same("book(" + b + ", " + what + ")", x.book(b, what), -1);
            }
            if (what < 0 || what > 1) {
                Check.meanThrows(x, b, what);
            }
        }
    }

    private static void noNumber(SequelShelf x, int n) {
        if (n < 1 || n > 60) {
            Check.same("days(" + n + ")", x.days(n), -1);
            Check.same("drawn(" + n + ")", x.drawn(n, 1), -1);
        }
        if (n < 1 || n > 30) {
            Check.same("odds(0, 0, " + n + ")", x.odds(0, 0, n, 1), -1);
        }
        if (n != 0 && n != 1) {
            Check.same("record(" + n + ")", x.record(n), -1000);
        }
        if (n < 0 || n > x.count(4)) {
            Check.no("end(" + n + ")", x.end(n));
        }
    }

    private static void noPlace(SequelShelf x, int k) {
        if (k != 0 && k != 1) {
            Check.no("image(" + k + ")", x.image(k));
            Check.no("restore(" + k + ")", x.restore(k));
        }
        if (k < 0 || k > 7) {
            Check.same("wayAt(" + k + ")", x.wayAt(k), -1);
            Check.same("ringAt(" + k + ")", x.ringAt(k), -1);
        }
        if (k < 0 || k > 5) {
            Check.same("atOnceOf(" + k + ")", x.atOnceOf(k), -1);
        }
        if (k < -1 || k > 5) {
            Check.same("said(" + k + ")", x.said(k), -1);
        }
        if (k < 0 || k > 30) {
            Check.same("byteAt(" + k + ")", x.byteAt(k), -1);
        }
    }
}
