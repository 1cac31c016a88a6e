import java.nio.charset.StandardCharsets;
import java.util.NoSuchElementException;
import java.util.Random;

/** Random runs of calls, each answer held against the Oracle's. */
final class RandomRunsTest {
    private static final int RUNS = 600;
    private static final int CALLS = 500;
    private static final int THROWN = -77777;
    private static final String[] BOOKS = {"a", "bb", "ccc", "abcdefg", "e", "f", "g", "h"};
    private static final String[] READERS = {"p", "qq", "rrr", "tuvwxyz", "u", "v"};
    private static final String[] JUNK = {";", "(", ")", "<", "=", ">", ".", "0", "1", "5", "31",
        "61", "99", "100", "999", "1000", "x", "abcdefgh", "a1", "1a", "A", "\t", "book", "after",
        "reader", "fine", "lends", "returns", "tells", "forge", "mend", "burn", "buy", "day", "or",
        "and", "not", "idle", "fined", "done", "has", "read", "pace", "left", "owes", "number", "a",
        "p"};

    private static final String[] NUMBERS = {"0", "9", "10", "30", "31", "60", "61", "99", "100",
        "999", "000", "0010"};

    private final Random random;
    private final SequelShelf x = new SequelShelf();
    private final Oracle o = new Oracle();
    private final StringBuilder log = new StringBuilder();

    private RandomRunsTest(int seed) {
        random = new Random(seed);
    }

    public static void main(String[] args) {
        int wrong = 0;
        for (int seed = 1; seed <= RUNS && wrong < 5; seed++) {
            if (!new RandomRunsTest(seed).run()) {
                wrong++;
                System.out.println("(seed " + seed + ")");
            }
        }
        System.exit(wrong == 0 ? 0 : 1);
    }

    private boolean run() {
        if (!newLibrary(20)) {
            return false;
        }
        for (int i = 0; i < CALLS; i++) {
            if (!call()) {
                return false;
            }
        }
        return true;
    }

    private boolean due(String call, long got, long want) {
        log.append(call).append(" -> ").append(want).append('\n');
        if (got == want) {
            return true;
        }
        System.out.println(log);
        System.out.println("the last call answered " + got);
        return false;
    }

    private int up(int n) {
        return random.nextInt(n);
    }

    /** A number of a BOOK, READER or the like, now and then of none. */
    private int one(int n) {
        int kind = up(40);
        if (kind == 0) {
            return -1;
        }
        if (kind == 1) {
            return random.nextInt();
        }
        return kind == 2 || n < 1 ? n : up(n);
    }

    private int book() {
        return one(o.count(0));
    }

    private int person() {
        return one(o.count(2));
    }

    private void put(String text) {
        put(text.getBytes(StandardCharsets.ISO_8859_1));
    }

    private void put(byte[] bytes) {
        Check.put(x, bytes);
        o.put(bytes);
    }

    /** Spoils a text now and then: a TOKEN taken away, put in or put for another, or a byte. */
    private String spoilt(String text, int often) {
        if (up(often) != 0 || text.isEmpty()) {
            return text;
        }
        int at = up(text.length());
        switch (up(8)) {
            case 6:
            case 7:
                return otherNumber(text);
            case 0:
                return text.substring(0, at);
            case 1:
                return text.substring(0, at) + text.substring(at + 1);
            case 2:
                return text.substring(0, at) + (char) up(256) + text.substring(at);
            case 3:
                return text.substring(0, at) + " " + JUNK[up(JUNK.length)] + " " + text.substring(at);
            case 4: {
                String[] parts = text.split(" ", -1);
                parts[up(parts.length)] = JUNK[up(JUNK.length)];
                return String.join(" ", parts);
            }
            default: {
                String[] parts = text.split(";", -1);
                parts[up(parts.length)] = parts[up(parts.length)];
                return String.join(";", parts);
            }
        }
    }

    /** A number in the text is put for another one. */
    private String otherNumber(String text) {
        String[] parts = text.split("(?<=[^0-9])(?=[0-9])|(?<=[0-9])(?=[^0-9])");
        for (int i = up(parts.length); i < parts.length; i++) {
            if (Character.isDigit(parts[i].charAt(0))) {
                parts[i] = NUMBERS[up(NUMBERS.length)];
                break;
            }
        }
        return String.join("", parts);
    }

    /** Text with blanks about, so that it comes near its most bytes or over them. */
    private String widened(String text, int most, int often) {
        if (up(often) != 0) {
            return text;
        }
        int want = Math.min(940, most - 8 + up(14));
        int more = want - text.length();
        if (more < 1) {
            return text.substring(0, Math.min(940, text.length()));
        }
        int at = text.isEmpty() ? 0 : up(3) == 0 ? 0 : Math.max(0, text.lastIndexOf(' '));
        return text.substring(0, at) + " ".repeat(more) + text.substring(at);
    }

    private static String cutTo(String text, int most) {
        return text.length() > most ? text.substring(0, most) : text;
    }

    private String libraryText() {
        StringBuilder t = new StringBuilder();
        int books = up(12) == 0 ? up(10) : 1 + up(8);
        int readers = up(12) == 0 ? up(8) : 1 + up(6);
        boolean rings = up(2) == 0;
        int afters = books < 2 ? 0 : up(up(2) == 0 ? 24 : 12);
        for (int b = 0; b < books; b++) {
            t.append("book ").append(BOOKS[Math.min(b, 7)]).append(b > 7 ? "z" : "").append(' ')
                    .append(1 + up(up(2) == 0 ? 12 : 99)).append(' ').append(up(3) == 0 ? up(10) : up(3))
                    .append(';');
        }
        boolean[] used = new boolean[64];
        for (int i = 0; i < afters; i++) {
            int a = up(Math.min(books, 8));
            int b = up(Math.min(books, 8));
            if (a == b || !rings && a < b || used[8 * a + b]) {
                continue;
            }
            used[8 * a + b] = true;
            t.append("after ").append(BOOKS[a]).append(' ').append(BOOKS[b]).append(';');
        }
        for (int r = 0; r < readers; r++) {
            t.append("reader ").append(READERS[Math.min(r, 5)]).append(r > 5 ? "z" : "").append(' ')
                    .append(1 + up(30)).append(';');
        }
        if (up(2) == 0) {
            t.append("fine ").append(up(31)).append(';');
        }
        return t.toString();
    }

    private boolean newLibrary(int often) {
        String text = cutTo(widened(spoilt(libraryText(), often), 900, often), 940);
        put(text);
        return due("library() of '" + text + "'", x.library(), o.library())
                && due("fault()", x.fault(), o.fault())
                && due("count(4)", x.count(4), o.count(4));
    }

    private String bookName() {
        return BOOKS[up(Math.max(1, Math.min(8, o.count(0))))];
    }

    private String readerName() {
        return READERS[up(Math.max(1, Math.min(6, o.count(2))))];
    }

    private boolean record() {
        StringBuilder t = new StringBuilder();
        int lines = up(10) == 0 ? 35 + up(8) : up(7);
        for (int i = 0; i < lines; i++) {
            switch (lines > 20 ? 3 + up(4) : up(9)) {
                case 0, 1 -> t.append(readerName()).append(" lends ").append(bookName());
                case 2 -> t.append(readerName()).append(" returns");
                case 3 -> t.append("buy ").append(bookName());
                case 4 -> t.append("burn ").append(bookName());
                case 5 -> t.append(up(2) == 0 ? "forge " : "mend ").append(bookName());
                case 6 -> t.append("buy ").append(bookName());
                case 7 -> t.append("day ").append(1 + up(up(5) == 0 ? 60 : 5));
                default -> t.append(readerName()).append(" tells ").append(bookName()).append(' ')
                        .append(readerName());
            }
            t.append(';');
        }
        String text = cutTo(widened(spoilt(t.toString(), 4), 400, 8), 940);
        int lives = up(20) == 0 ? up(5) - 2 : up(2);
        put(text);
        return due("record(" + lives + ") of '" + text + "'", x.record(lives), o.record(lives))
                && due("fault()", x.fault(), o.fault()) && due("count(4)", x.count(4), o.count(4))
                && allTold();
    }

    private boolean allTold() {
        boolean good = true;
        for (int what = -1; what < 5 && good; what++) {
            good = due("told(" + what + ")", x.told(what), o.told(what));
        }
        return good;
    }

    private String sentenceText(int depth) {
        int kind = up(depth > 6 + up(4) ? 7 : 16);
        switch (kind) {
            case 0: return "idle";
            case 1: return "fined";
            case 2: return "done";
            case 3: return "has " + bookName();
            case 4: return "read " + bookName();
            case 5: return (up(2) == 0 ? "owes " : "pace ") + "<=>".charAt(up(3)) + up(up(2) == 0 ? 12 : 40);
            case 6: return (up(2) == 0 ? "left " : "number ") + "<=>".charAt(up(3)) + " " + up(up(2) == 0 ? 6 : 50);
            case 7, 8, 9: return "not " + sentenceText(depth + 1);
            case 10, 11: return "( " + sentenceText(depth + 1) + " )";
            case 12, 13: return sentenceText(depth + 1) + " and " + sentenceText(depth + 1);
            default: return sentenceText(depth + 1) + " or " + sentenceText(depth + 1);
        }
    }

    private boolean sentence() {
        String text = cutTo(widened(spoilt(sentenceText(up(5)), 4), 200, 8), 940);
        put(text);
        boolean good = due("sentence() of '" + text + "'", x.sentence(), o.sentence())
                && due("fault()", x.fault(), o.fault()) && due("count(4)", x.count(4), o.count(4));
        return good && said();
    }

    private boolean said() {
        boolean good = true;
        for (int k = -2; k < 7 && good; k++) {
            good = due("said(" + k + ")", x.said(k), o.said(k));
        }
        return good;
    }

    private boolean fits() {
        int n = up(12) == 0 ? up(20) : 2 * (1 + up(4));
        byte[] bytes = new byte[n];
        for (int i = 0; i < n; i++) {
            int all = (1 << o.count(0)) - 1;
            bytes[i] = (byte) (i % 2 == 1 ? (up(30) == 0 ? up(4) : up(2)) : up(40) == 0 ? up(256)
                    : (random.nextInt() | (up(2) == 0 ? random.nextInt() : 0)) & all);
        }
        put(bytes);
        return due("fits() of " + java.util.Arrays.toString(bytes), x.fits(), o.fits())
                && due("count(4)", x.count(4), o.count(4))
                && due("fitting()", x.fitting(), o.fitting()) && due("ask()", x.ask(), o.ask());
    }

    private boolean call() {
        switch (up(42)) {
            case 0: case 1: case 2: case 3: case 4: return act();
            case 5: case 6: case 7: return lendSome();
            case 8: case 9: case 10: return dayOrUndo();
            case 11: return up(4) != 0 || newLibrary(2);
            case 12: case 13: return record();
            case 14: case 15: return sentence();
            case 16: return said();
            case 17: return fits();
            case 18: case 19: return atOnce();
            case 20: case 21: case 22: return way();
            case 23: case 24: return ring();
            case 25: return due("cut()", x.cut(), o.cut()) && due("cutting()", x.cutting(), o.cutting());
            case 26: return deep();
            case 27: case 28: return mean();
            case 29: return slip();
            case 30: return draws();
            case 31: case 32: return images();
            case 33: case 34: case 35: return reader();
            case 36: case 37: return bookCall();
            case 38: return count();
            case 39: case 40: return toldLast();
            default: return now();
        }
    }

    private boolean act() {
        int b = book();
        int r = person();
        int q = person();
        switch (up(8)) {
            case 0: return due("lend(" + r + ", " + b + ")", x.lend(r, b), o.lend(r, b));
            case 1: return due("back(" + r + ")", x.back(r), o.back(r));
            case 2:
            case 3: return due("tell(" + r + ", " + b + ", " + q + ")", x.tell(r, b, q), o.tell(r, b, q));
            case 4: return due("forge(" + b + ")", x.forge(b), o.forge(b));
            case 5: return due("mend(" + b + ")", x.mend(b), o.mend(b));
            case 6: return due("burn(" + b + ")", x.burn(b), o.burn(b));
            default: return due("buy(" + b + ")", x.buy(b), o.buy(b));
        }
    }

    private boolean lendSome() {
        boolean good = true;
        for (int i = 0; i < 3 && good; i++) {
            int b = book();
            int r = person();
            good = due("lend(" + r + ", " + b + ")", x.lend(r, b), o.lend(r, b));
        }
        return good;
    }

    private boolean dayOrUndo() {
        if (up(4) == 0) {
            boolean good = true;
            for (int i = up(up(10) == 0 ? 12 : 3); i >= 0 && good; i--) {
                good = due("undo()", x.undo(), o.undo());
            }
            return good;
        }
        int n = up(8) == 0 ? up(64) - 1 : 1 + up(4);
        if (up(40) == 0) {
            return manyDays();
        }
        return due("days(" + n + ")", x.days(n), o.days(n));
    }

    /** Comes near the last DAY, or to it. */
    private boolean manyDays() {
        boolean good = true;
        for (int i = 0; i < 8 && good; i++) {
            int n = 45 + up(16);
            good = up(4) == 0 ? due("drawn(" + n + ", 1)", x.drawn(n, 1), o.drawn(n, 1))
                    : due("days(" + n + ")", x.days(n), o.days(n));
        }
        return good;
    }

    private boolean atOnce() {
        return due("atOnce()", x.atOnce(), o.atOnce()) && allAtOnceOf();
    }

    private boolean allAtOnceOf() {
        boolean good = true;
        for (int r = -1; r < 7 && good; r++) {
            good = due("atOnceOf(" + r + ")", x.atOnceOf(r), o.atOnceOf(r));
        }
        return good;
    }

    /** What calls told last, asked for at any time: behind acts, another LIBRARY, an image, too. */
    private boolean toldLast() {
        return allAtOnceOf() && allWayAt() && allRingAt() && allBytes() && allTold()
                && due("cutting()", x.cutting(), o.cutting())
                && due("fitting()", x.fitting(), o.fitting()) && due("ask()", x.ask(), o.ask())
                && due("fault()", x.fault(), o.fault()) && said();
    }

    private boolean way() {
        int r = person();
        int b = book();
        return due("way(" + r + ", " + b + ")", x.way(r, b), o.way(r, b)) && allWayAt();
    }

    private boolean allWayAt() {
        boolean good = true;
        for (int k = -1; k < 9 && good; k++) {
            good = due("wayAt(" + k + ")", x.wayAt(k), o.wayAt(k));
        }
        return good;
    }

    private boolean ring() {
        int b = book();
        return due("ring(" + b + ")", x.ring(b), o.ring(b)) && allRingAt();
    }

    private boolean allRingAt() {
        boolean good = true;
        for (int k = -1; k < 9 && good; k++) {
            good = due("ringAt(" + k + ")", x.ringAt(k), o.ringAt(k));
        }
        return good;
    }

    private boolean deep() {
        int b = book();
        return due("deep(" + b + ")", x.deep(b), o.deep(b));
    }

    private boolean mean() {
        int b = book();
        int what = one(2);
        int got;
        int want;
        try {
            got = x.mean(b, what);
        } catch (NoSuchElementException e) {
            got = THROWN;
        }
        try {
            want = o.mean(b, what);
        } catch (NoSuchElementException e) {
            want = THROWN;
        }
        return due("mean(" + b + ", " + what + ")", got, want);
    }

    private boolean reader() {
        int r = person();
        int what = one(7);
        int got;
        int want;
        try {
            got = x.reader(r, what);
        } catch (NoSuchElementException e) {
            got = THROWN;
        }
        try {
            want = o.reader(r, what);
        } catch (NoSuchElementException e) {
            want = THROWN;
        }
        return due("reader(" + r + ", " + what + ")", got, want);
    }

    private boolean bookCall() {
        int b = book();
        int what = one(6);
        return due("book(" + b + ", " + what + ")", x.book(b, what), o.book(b, what));
    }

    private boolean now() {
        int what = one(8);
        return due("now(" + what + ")", x.now(what), o.now(what));
    }

    private boolean count() {
        int what = one(5);
        return due("count(" + what + ")", x.count(what), o.count(what));
    }

    private boolean slip() {
        int r = person();
        return due("slip(" + r + ")", x.slip(r), o.slip(r)) && allBytes();
    }

    private boolean allBytes() {
        boolean good = true;
        for (int i = -1; i < 34 && good; i++) {
            good = due("byteAt(" + i + ")", x.byteAt(i), o.byteAt(i));
        }
        return good;
    }

    private boolean draws() {
        int seed = random.nextInt();
        if (up(2) == 0) {
            int n = up(10) == 0 ? up(64) - 1 : 1 + up(10);
            return due("drawn(" + n + ", " + seed + ")", x.drawn(n, seed), o.drawn(n, seed));
        }
        int r = person();
        int b = book();
        int n = up(33);
        return due("odds(" + r + ", " + b + ", " + n + ", " + seed + ")", x.odds(r, b, n, seed),
                o.odds(r, b, n, seed));
    }

    private boolean images() {
        int k = one(2);
        if (up(2) == 0) {
            return due("image(" + k + ")", x.image(k) ? 1 : 0, o.image(k) ? 1 : 0);
        }
        return due("restore(" + k + ")", x.restore(k) ? 1 : 0, o.restore(k) ? 1 : 0);
    }
}
