import java.nio.charset.StandardCharsets;
import java.util.NoSuchElementException;

/** What the project's tests share: feeding texts, and comparing answers with those that are due. */
final class Check {
    private static int wrong = 0;

    private Check() {
    }

    static void same(String call, long got, long want) {
        if (got != want) {
            wrong++;
            System.out.println(call + " answered " + got + ", due is " + want);
        }
    }

    static void yes(String call, boolean got) {
        same(call, got ? 1 : 0, 1);
    }

    static void no(String call, boolean got) {
        same(call, got ? 1 : 0, 0);
    }

    static void finish() {
        System.exit(wrong == 0 ? 0 : 1);
    }

    /** The tape has these bytes alone. */
    static void put(SequelShelf x, byte[] bytes) {
        x.end(0);
        for (int i = 0; i < bytes.length; i += 20) {
            if (x.feed(four(bytes, i), four(bytes, i + 4), four(bytes, i + 8), four(bytes, i + 12),
                    four(bytes, i + 16)) == SequelShelf.NONE) {
                throw new IllegalArgumentException("too long for the tape");
            }
        }
        if (!x.end(bytes.length)) {
            throw new IllegalStateException("end() is wrong");
        }
    }

    static void put(SequelShelf x, String text) {
        put(x, text.getBytes(StandardCharsets.ISO_8859_1));
    }

    static int four(byte[] bytes, int at) {
        int sum = 0;
        for (int i = at; i < at + 4; i++) {
            // What end() cuts off must not count: a letter would spoil texts, and pairs, too.
            sum = sum << 8 | (i < bytes.length ? bytes[i] & 255 : 'z');
        }
        return sum;
    }

    static SequelShelf shelf(String library) {
        SequelShelf x = new SequelShelf();
        put(x, library);
        if (x.library() < 0) {
            throw new IllegalArgumentException("a FAULT in: " + library);
        }
        return x;
    }

    static void library(SequelShelf x, String text, int answer, int fault) {
        put(x, text);
        same("library() of " + text, x.library(), answer);
        same("fault() of " + text, x.fault(), fault);
        same("the tape behind it", x.count(4), 0);
    }

    static void record(SequelShelf x, String text, int lives, int answer, int fault) {
        put(x, text);
        same("record(" + lives + ") of " + text, x.record(lives), answer);
        same("fault() of " + text, x.fault(), fault);
        same("the tape behind it", x.count(4), 0);
    }

    static void sentence(SequelShelf x, String text, int answer, int fault) {
        put(x, text);
        same("sentence() of " + text, x.sentence(), answer);
        same("fault() of " + text, x.fault(), fault);
        same("the tape behind it", x.count(4), 0);
    }

    static String slip(SequelShelf x, int r) {
        int length = x.slip(r);
        StringBuilder text = new StringBuilder();
        for (int i = 0; i < length; i++) {
            text.append((char) x.byteAt(i));
        }
        same("the byte behind the slip", x.byteAt(length), -1);
        return text.toString();
    }

    static void text(String call, String got, String want) {
        if (!got.equals(want)) {
            wrong++;
            System.out.println(call + " answered '" + got + "', due is '" + want + "'");
        }
    }

    static void readerThrows(SequelShelf x, int r, int what) {
        try {
            int got = x.reader(r, what);
            same("reader(" + r + ", " + what + ") throws; it answered " + got + ", throws", 0, 1);
        } catch (NoSuchElementException e) {
            same("it throws", 1, 1);
        }
    }

    static void meanThrows(SequelShelf x, int b, int what) {
        try {
            int got = x.mean(b, what);
            same("mean(" + b + ", " + what + ") throws; it answered " + got + ", throws", 0, 1);
        } catch (NoSuchElementException e) {
            same("it throws", 1, 1);
        }
    }

    static void mean(SequelShelf x, int b, int above, int below) {
        same("mean(" + b + ", 0)", x.mean(b, 0), above);
        same("mean(" + b + ", 1)", x.mean(b, 1), below);
    }

    /** All that calls which change nothing tell: what is so, and what other calls told last. */
    static String whole(SequelShelf x) {
        StringBuilder all = new StringBuilder();
        for (int i = -1; i < 41; i++) {
            all.append(x.count(i)).append(' ').append(x.now(i)).append(' ').append(x.said(i)).append(' ');
            all.append(x.told(i)).append(' ').append(x.wayAt(i)).append(' ').append(x.ringAt(i)).append(' ');
            all.append(x.atOnceOf(i)).append(' ').append(x.byteAt(i)).append(' ');
        }
        for (int i = 0; i < 8; i++) {
            for (int what = 0; what < 7; what++) {
                all.append(x.book(i, what)).append(' ');
                all.append(i < x.count(2) ? x.reader(i, what) : 0).append(' ');
            }
        }
        all.append(x.fault()).append(' ').append(x.cutting()).append(' ');
        return all.append(x.fitting()).append(' ').append(x.ask()).toString();
    }

    /** The same piece again and again. */
    static String times(int n, String piece) {
        return piece.repeat(n);
    }
}
