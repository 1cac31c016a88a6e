import java.util.Arrays;
import java.util.NoSuchElementException;

/**
 * A library that lends a book only to who has read all that it is after.
 *
 * <p>Words in capitals are the document's terms. Every row is made in a constructor and used
 * again, because all calls of a run share one room that is never swept.
 */
public final class SequelShelf {
    public static final int NONE = -1;

    private static final int MOST_BOOKS = 8;
    private static final int MOST_AFTERS = 16;
    private static final int MOST_READERS = 6;
    private static final int MOST_FINES = 99;
    private static final int MOST_IN_TO_BUY = 9;
    private static final int LAST_DAY = 400;
    private static final int MOST_DAYS_A_CALL = 60;
    private static final int IMAGES = 2;
    private static final int FEED_BYTES = 20;
    private static final int MOST_PAIRS = 8;
    private static final int MOST_SEEDS = 30;
    private static final int ODDS_DAYS = 20;
    private static final int SLIP_BYTES = 40;
    private static final int NO_SUCH_LIVES = -1000;

    private static final int FAULT_TOKEN = 1;
    private static final int FAULT_NUMBER = 2;
    private static final int FAULT_NAME = 3;
    private static final int FAULT_MANY = 4;

    private final Text text = new Text();
    private final Tape tape = text.tape;
    private final Shelf shelf = new Shelf();
    // What may yet be refused is read, judged and drawn here, so that the shelf itself stays.
    private final Shelf spare = new Shelf();
    private final Shelf[] images = new Shelf[IMAGES];
    private final History history = new History();
    private final RecordText lines = new RecordText();
    private final Order order = new Order();
    private final Handout handout = new Handout();
    private final int[] toldOfRecord = new int[4];
    private final int[] slipBytes = new int[SLIP_BYTES];
    private final int[] setsWith = new int[MOST_BOOKS];
    private int slipLength = 0;
    private int latestFault = 0;
    private int latestCut = NONE;
    private int latestFitting = NONE;
    private int latestAsk = NONE;

    public SequelShelf() {
        for (int k = 0; k < IMAGES; k++) {
            images[k] = new Shelf();
        }
        Arrays.fill(toldOfRecord, NONE);
    }

    // ---- the tape and the LIBRARY

    public int feed(int a, int b, int c, int d, int e) {
        if (tape.size + FEED_BYTES > Tape.MOST) {
            return NONE;
        }
        tape.add(a);
        tape.add(b);
        tape.add(c);
        tape.add(d);
        tape.add(e);
        return tape.size;
    }

    public boolean end(int n) {
        if (n < 0 || n > tape.size) {
            return false;
        }
        tape.size = n;
        return true;
    }

    public int library() {
        int count = spare.library.readFrom(text);
        tape.size = 0;
        latestFault = text.fault;
        if (text.fault != 0) {
            return -1 - text.place;
        }
        shelf.library.copyFrom(spare.library);
        shelf.state.begin(shelf.library);
        shelf.sentence.forget();
        history.forget();
        return count;
    }

    public int fault() {
        return latestFault;
    }

    public int count(int what) {
        switch (what) {
            case 0: return shelf.library.books;
            case 1: return shelf.library.afters;
            case 2: return shelf.library.readers;
            case 3: return shelf.library.fine;
            case 4: return tape.size;
            default: return NONE;
        }
    }

    // ---- what is so now

    public int reader(int r, int what) throws NoSuchElementException {
        if (!shelf.library.hasReader(r) || what < 0 || what > 6) {
            throw new NoSuchElementException("no such READER, or nothing such of him");
        }
        State state = shelf.state;
        switch (what) {
            case 0: return shelf.library.pace[r];
            case 1: return state.has[r];
            case 2: return state.left[r];
            case 3: return state.fines[r];
            case 4: return state.read[r];
            case 5: return state.lendable(shelf.library, r);
            default: return everOf(r);
        }
    }

    public int book(int b, int what) {
        if (!shelf.library.hasBook(b)) {
            return NONE;
        }
        State state = shelf.state;
        switch (what) {
            case 0: return shelf.library.pages[b];
            case 1: return state.in[b];
            case 2: return state.copiesOut(b);
            case 3: return state.forged >> b & 1;
            case 4: return shelf.library.after[b];
            case 5: return state.readersOf(b);
            default: return NONE;
        }
    }

    public int now(int what) {
        State state = shelf.state;
        switch (what) {
            case 0: return state.day;
            case 1: return state.allOut();
            case 2: return state.forged;
            case 3: return state.readByAny();
            case 4: return state.fined();
            case 5: return state.booksRead;
            case 6: return state.pagesRead;
            case 7:
                order.take(shelf.library, state.forged);
                return order.ringed();
            default: return NONE;
        }
    }

    // ---- acts

    public int lend(int r, int b) {
        if (!shelf.library.hasReader(r) || !shelf.library.hasBook(b)) {
            return NONE;
        }
        history.hold(shelf.state);
        return keepIfDone(shelf.state.lendTo(shelf.library, r, b));
    }

    public int back(int r) {
        if (!shelf.library.hasReader(r)) {
            return NONE;
        }
        history.hold(shelf.state);
        return keepIfDone(shelf.state.takeBack(shelf.library, r));
    }

    public int tell(int r, int b, int q) {
        Library library = shelf.library;
        if (!library.hasReader(r) || !library.hasBook(b) || !library.hasReader(q)) {
            return NONE;
        }
        history.hold(shelf.state);
        return keepIfDone(shelf.state.tellOn(library, r, b, q));
    }

    public int forge(int b) {
        if (!shelf.library.hasBook(b)) {
            return NONE;
        }
        history.hold(shelf.state);
        return keepIfDone(shelf.state.forgeIt(shelf.library, b));
    }

    public int mend(int b) {
        if (!shelf.library.hasBook(b)) {
            return NONE;
        }
        history.hold(shelf.state);
        return keepIfDone(shelf.state.mendIt(b));
    }

    public int burn(int b) {
        if (!shelf.library.hasBook(b)) {
            return NONE;
        }
        history.hold(shelf.state);
        return keepIfDone(shelf.state.burnOne(b));
    }

    public int buy(int b) {
        if (!shelf.library.hasBook(b)) {
            return NONE;
        }
        history.hold(shelf.state);
        return keepIfDone(shelf.state.buyOne(b));
    }

    public int days(int n) {
        if (n < 1 || n > MOST_DAYS_A_CALL) {
            return NONE;
        }
        history.hold(shelf.state);
        return keepIfGone(shelf.state.passDays(shelf.library, n));
    }

    public int drawn(int n, int seed) {
        if (n < 1 || n > MOST_DAYS_A_CALL) {
            return NONE;
        }
        history.hold(shelf.state);
        return keepIfGone(shelf.state.drawDays(shelf.library, n, seed));
    }

    public int undo() {
        return history.takeBack(shelf.state);
    }

    private int keepIfDone(int whyNot) {
        if (whyNot == 0) {
            history.keep();
        }
        return whyNot;
    }

    private int keepIfGone(int daysGone) {
        if (daysGone > 0) {
            history.keep();
        }
        return daysGone;
    }

    // ---- orders of BOOKS

    private int everOf(int r) {
        order.take(shelf.library, shelf.state.forged);
        return order.grown(shelf.state.readOrHas(r));
    }

    public int way(int r, int b) {
        if (!shelf.library.hasReader(r) || !shelf.library.hasBook(b)) {
            return NONE;
        }
        if (!isIn(everOf(r), b)) {
            return NONE;
        }
        State state = shelf.state;
        if (isIn(state.read[r], b)) {
            order.wayLength = 0;
            return 0;
        }
        order.findWay(b, state.read[r], state.has[r]);
        int pages = state.fines[r] + state.left[r];
        for (int k = 0; k < order.wayLength; k++) {
            if (order.way[k] != state.has[r]) {
                pages += shelf.library.pagesOf(order.way[k]);
            }
        }
        int pace = shelf.library.pace[r];
        return pace < 1 ? NONE : (pages + pace - 1) / pace;
    }

    public int wayAt(int k) {
        return k >= 0 && k < order.wayLength ? order.way[k] : NONE;
    }

    public int ring(int b) {
        if (!shelf.library.hasBook(b)) {
            return NONE;
        }
        order.take(shelf.library, shelf.state.forged);
        return order.findRing(b) ? order.ringLength : NONE;
    }

    public int ringAt(int k) {
        return k >= 0 && k < order.ringLength ? order.ring[k] : NONE;
    }

    public int cut() {
        order.take(shelf.library, shelf.state.forged);
        latestCut = order.leastCut();
        return Integer.bitCount(latestCut);
    }

    public int cutting() {
        return latestCut;
    }

    public int deep(int b) {
        if (!shelf.library.hasBook(b)) {
            return NONE;
        }
        order.take(shelf.library, shelf.state.forged);
        return order.depthOf(b);
    }

    public int mean(int b, int what) throws NoSuchElementException {
        if (what < 0 || what > 1 || deep(b) == NONE) {
            throw new NoSuchElementException("no such BOOK or number, or a RING is in its way");
        }
        order.take(shelf.library, shelf.state.forged);
        int needed = order.allBefore(b) | 1 << b;
        int pages = 0;
        for (int other = 0; other < shelf.library.books; other++) {
            if (isIn(needed, other)) {
                pages += shelf.library.pages[other];
            }
        }
        int many = Integer.bitCount(needed);
        int common = commonDivisor(pages, many);
        if (common < 1) {
            return NONE;
        }
        return what == 0 ? pages / common : many / common;
    }

    /** The greatest common divisor; the second number is a count of BOOKS and so is small. */
    private static int commonDivisor(int number, int few) {
        for (int d = few; d > 1; d--) {
            if (number % d == 0 && few % d == 0) {
                return d;
            }
        }
        return 1;
    }

    // ---- what a new BOOK can be AFTER

    public int fits() {
        int sets = pairsAreAsTold() ? countFits() : NONE;
        tape.size = 0;
        return sets;
    }

    private int countFits() {
        int sets = 0;
        int fewest = NONE;
        Arrays.fill(setsWith, 0);
        for (int set = 0; set <= shelf.library.allBooks(); set++) {
            if (!fitsPairs(set)) {
                continue;
            }
            sets++;
            if (fewest == NONE || Integer.bitCount(set) < Integer.bitCount(fewest)) {
                fewest = set;
            }
            countBooksOf(set);
        }
        if (sets > 0) {
            latestFitting = fewest;
            latestAsk = bestToAsk(sets);
        }
        return sets;
    }

    private boolean pairsAreAsTold() {
        int size = tape.size;
        if (shelf.library.books < 1 || size < 2 || size > 2 * MOST_PAIRS || size % 2 != 0) {
            return false;
        }
        for (int i = 0; i + 1 < size; i += 2) {
            if (tape.at(i) > shelf.library.allBooks() || tape.at(i + 1) > 1) {
                return false;
            }
        }
        return true;
    }

    private boolean fitsPairs(int set) {
        for (int i = 0; i + 1 < tape.size; i += 2) {
            boolean wouldBeFit = (set & ~tape.at(i)) == 0;
            if (wouldBeFit != (tape.at(i + 1) == 1)) {
                return false;
            }
        }
        return true;
    }

    private void countBooksOf(int set) {
        for (int b = 0; b < MOST_BOOKS; b++) {
            setsWith[b] += set >> b & 1;
        }
    }

    private int bestToAsk(int sets) {
        int best = NONE;
        int leastLeft = 0;
        for (int b = 0; b < shelf.library.books; b++) {
            int left = Math.max(setsWith[b], sets - setsWith[b]);
            if (best == NONE || left < leastLeft) {
                best = b;
                leastLeft = left;
            }
        }
        return best;
    }

    public int fitting() {
        return latestFitting;
    }

    public int ask() {
        return latestAsk;
    }

    // ---- AT ONCE

    public int atOnce() {
        return handout.find(shelf.library, shelf.state);
    }

    public int atOnceOf(int r) {
        return handout.bookOf(r);
    }

    // ---- SLIPS

    public int slip(int r) {
        if (!shelf.library.hasReader(r)) {
            return NONE;
        }
        State state = shelf.state;
        slipLength = 0;
        putName(shelf.library.names[r]);
        if (shelf.library.hasBook(state.has[r])) {
            putText(" has ");
            putName(shelf.library.titles[state.has[r]]);
            putText(" ");
            putNumber(state.left[r]);
        } else {
            putText(" idle");
        }
        if (state.fines[r] > 0) {
            putText(" owes ");
            putNumber(state.fines[r]);
        }
        return slipLength;
    }

    public int byteAt(int i) {
        return i >= 0 && i < slipLength && i < SLIP_BYTES ? slipBytes[i] : NONE;
    }

    private void putByte(int value) {
        if (slipLength < SLIP_BYTES) {
            slipBytes[slipLength] = value;
            slipLength++;
        }
    }

    private void putText(String letters) {
        for (int i = 0; i < letters.length(); i++) {
            putByte(letters.charAt(i));
        }
    }

    private void putName(long name) {
        for (int i = 0; i < Word.MOST_LETTERS; i++) {
            int letter = Word.letterAt(name, i);
            if (letter != 0) {
                putByte(letter);
            }
        }
    }

    /** Of numbers up to 99, as all pages on a SLIP are. */
    private void putNumber(int number) {
        if (number >= 10) {
            putByte('0' + number / 10 % 10);
        }
        putByte('0' + number % 10);
    }

    // ---- draws, RECORDS, SENTENCES, images

    public int odds(int r, int b, int n, int seed) {
        Library library = shelf.library;
        if (!library.hasReader(r) || !library.hasBook(b) || n < 1 || n > MOST_SEEDS) {
            return NONE;
        }
        int times = 0;
        for (int i = 0; i < n; i++) {
            spare.state.copyFrom(shelf.state);
            spare.state.drawDays(library, ODDS_DAYS, seed + i);
            times += spare.state.read[r] >> b & 1;
        }
        return times;
    }

    public int record(int lives) {
        if (lives != 0 && lives != 1) {
            return NO_SUCH_LIVES;
        }
        lines.readFrom(text, shelf.library);
        tape.size = 0;
        latestFault = text.fault;
        if (text.fault != 0) {
            return -2 - text.place;
        }
        spare.state.copyFrom(shelf.state);
        int lived = lines.live(shelf.library, spare.state);
        toldOfRecord[0] = lines.whyWrong;
        toldOfRecord[1] = lived;
        toldOfRecord[2] = spare.state.day;
        toldOfRecord[3] = spare.state.readByAny();
        if (lives == 1 && lived > 0) {
            history.hold(shelf.state);
            history.keep();
            shelf.state.copyFrom(spare.state);
        }
        return lines.whyWrong == 0 ? NONE : lived;
    }

    public int told(int what) {
        return what >= 0 && what < toldOfRecord.length ? toldOfRecord[what] : NONE;
    }

    public int sentence() {
        spare.sentence.readFrom(text, shelf.library);
        tape.size = 0;
        latestFault = text.fault;
        if (text.fault != 0) {
            return -1 - text.place;
        }
        shelf.sentence.copyFrom(spare.sentence);
        return shelf.sentence.ones;
    }

    public int said(int k) {
        if (shelf.sentence.ones == 0 || k < NONE) {
            return NONE;
        }
        int whom = shelf.sentence.trueOf(shelf.library, shelf.state);
        if (k == NONE) {
            return Integer.bitCount(whom);
        }
        int ahead = 0;
        for (int r = 0; r < shelf.library.readers; r++) {
            if (isIn(whom, r)) {
                if (ahead == k) {
                    return r;
                }
                ahead++;
            }
        }
        return NONE;
    }

    public boolean image(int k) {
        if (k < 0 || k >= IMAGES) {
            return false;
        }
        images[k].copyFrom(shelf);
        images[k].kept = true;
        return true;
    }

    public boolean restore(int k) {
        if (k < 0 || k >= IMAGES || !images[k].kept) {
            return false;
        }
        shelf.copyFrom(images[k]);
        history.forget();
        return true;
    }

    private static boolean isIn(int set, int member) {
        return member >= 0 && (set >> member & 1) != 0;
    }

    /** The words that have a meaning of their own, so that no NAME may be one of them. */
    private enum Word {
        BOOK("book"), AFTER("after"), READER("reader"), FINE("fine"),
        LENDS("lends"), RETURNS("returns"), TELLS("tells"), FORGE("forge"), MEND("mend"),
        BURN("burn"), BUY("buy"), DAY("day"),
        OR("or"), AND("and"), NOT("not"), IDLE("idle"), FINED("fined"), DONE("done"),
        HAS("has"), READ("read"), PACE("pace"), LEFT("left"), OWES("owes"), NUMBER("number");

        static final int MOST_LETTERS = 7;
        private static final int LETTER_BITS = 5;
        private static final Word[] ALL = values();

        private final long packed;

        Word(String letters) {
            long sum = 0;
            for (int i = 0; i < letters.length(); i++) {
                sum = withLetter(sum, letters.charAt(i));
            }
            packed = sum;
        }

        /** Seven letters fit in a long, which is compared and kept without an object. */
        static long withLetter(long sum, int letter) {
            return sum << LETTER_BITS | letter - 'a' + 1;
        }

        /** The letter at a place counted from where a seventh one would begin; 0 for none. */
        static int letterAt(long name, int place) {
            int shift = (MOST_LETTERS - 1 - place) * LETTER_BITS;
            int letter = (int) (name >>> shift) & 31;
            return letter == 0 ? 0 : 'a' + letter - 1;
        }

        static Word of(long name) {
            for (int i = 0; i < ALL.length; i++) {
                if (ALL[i].packed == name) {
                    return ALL[i];
                }
            }
            return null;
        }
    }

    /** The bytes that were fed. */
    private static final class Tape {
        static final int MOST = 940;

        int size = 0;
        private final int[] bytes = new int[MOST];

        void add(int four) {
            for (int shift = 24; shift >= 0; shift -= 8) {
                if (size >= 0 && size < MOST) {
                    bytes[size] = four >>> shift & 255;
                    size++;
                }
            }
        }

        int at(int place) {
            return place >= 0 && place < MOST ? bytes[place] : 0;
        }
    }

    /** The tape, TOKEN by TOKEN, and the first FAULT along it. */
    private static final class Text {
        // Kinds of TOKENS; a sign is its own kind. NO_TOKEN is also what lies behind the most bytes.
        static final int END = 0;
        static final int NO_TOKEN = 1;
        static final int WORD = 2;
        static final int NAME = 3;
        static final int NUMBER = 4;

        private static final int MOST_DIGITS = 3;

        int kind;
        Word word;
        long name;
        int fault;
        int place;
        private int number;
        final Tape tape = new Tape();
        private int most;
        private int at;
        private int ahead;

        void begin(int mostBytes) {
            most = mostBytes;
            ahead = 0;
            fault = 0;
            place = 0;
            next();
        }

        void next() {
            while (ahead < tape.size && isBlank(tape.at(ahead))) {
                ahead++;
            }
            word = null;
            if (ahead >= tape.size || ahead >= most) {
                at = Math.min(tape.size, most);
                kind = tape.size > most ? NO_TOKEN : END;
                return;
            }
            at = ahead;
            int first = tape.at(at);
            if (isLetter(first) || isDigit(first)) {
                takeRun();
            } else {
                kind = isSign(first) ? first : NO_TOKEN;
                ahead++;
            }
        }

        private void takeRun() {
            int letters = 0;
            int digits = 0;
            name = 0;
            number = 0;
            while (ahead < tape.size && (isLetter(tape.at(ahead)) || isDigit(tape.at(ahead)))) {
                if (isLetter(tape.at(ahead))) {
                    name = Word.withLetter(name, tape.at(ahead));
                    letters++;
                } else {
                    number = number * 10 + tape.at(ahead) - '0';
                    digits++;
                }
                ahead++;
            }
            if (digits == 0 && letters <= Word.MOST_LETTERS) {
                word = Word.of(name);
                kind = word == null ? NAME : WORD;
            } else {
                kind = letters == 0 && digits <= MOST_DIGITS ? NUMBER : NO_TOKEN;
            }
        }

        /** Answers false, so that what reads on can stop with it. */
        boolean stop(int faultKind) {
            fault = faultKind;
            place = at;
            return false;
        }

        boolean takeSign(int sign) {
            if (kind != sign) {
                return stop(FAULT_TOKEN);
            }
            next();
            return true;
        }

        /** The number that the TOKEN is; NONE with a FAULT. */
        int numberHere(int least, int greatest) {
            if (kind != NUMBER) {
                stop(FAULT_TOKEN);
                return NONE;
            }
            if (number < least || number > greatest) {
                stop(FAULT_NUMBER);
                return NONE;
            }
            return number;
        }

        private static boolean isBlank(int value) {
            return value == ' ' || value == 10;
        }

        private static boolean isLetter(int value) {
            return value >= 'a' && value <= 'z';
        }

        private static boolean isDigit(int value) {
            return value >= '0' && value <= '9';
        }

        private static boolean isSign(int value) {
            return value == ';' || value == '<' || value == '=' || value == '>'
                    || value == '(' || value == ')';
        }
    }

    /** A LIBRARY as it was told. */
    private static final class Library {
        private static final int MOST_BYTES = 900;
        private static final int MOST_PAGES = 99;
        private static final int MOST_COPIES = 9;
        private static final int MOST_PACE = 30;
        private static final int MOST_FINE = 30;
        private static final int FINE_UNTOLD = 5;

        int books = 0;
        int afters = 0;
        int readers = 0;
        int fine = FINE_UNTOLD;
        private boolean fineTold = false;
        final long[] titles = new long[MOST_BOOKS];
        final int[] pages = new int[MOST_BOOKS];
        final int[] copies = new int[MOST_BOOKS];
        final int[] after = new int[MOST_BOOKS];
        final long[] names = new long[MOST_READERS];
        final int[] pace = new int[MOST_READERS];

        void copyFrom(Library other) {
            books = other.books;
            afters = other.afters;
            readers = other.readers;
            fine = other.fine;
            fineTold = other.fineTold;
            System.arraycopy(other.titles, 0, titles, 0, MOST_BOOKS);
            System.arraycopy(other.pages, 0, pages, 0, MOST_BOOKS);
            System.arraycopy(other.copies, 0, copies, 0, MOST_BOOKS);
            System.arraycopy(other.after, 0, after, 0, MOST_BOOKS);
            System.arraycopy(other.names, 0, names, 0, MOST_READERS);
            System.arraycopy(other.pace, 0, pace, 0, MOST_READERS);
        }

        boolean hasBook(int b) {
            return b >= 0 && b < books && b < MOST_BOOKS;
        }

        boolean hasReader(int r) {
            return r >= 0 && r < readers && r < MOST_READERS;
        }

        int pagesOf(int b) {
            return hasBook(b) ? pages[b] : 0;
        }

        int allBooks() {
            return (1 << books) - 1;
        }

        /** How many LINES; what it answers with a FAULT does not matter. */
        int readFrom(Text text) {
            books = 0;
            afters = 0;
            readers = 0;
            fine = FINE_UNTOLD;
            fineTold = false;
            text.begin(MOST_BYTES);
            int lines = 0;
            while (lines < MOST_BYTES && text.kind != Text.END) {
                if (!readLine(text)) {
                    return lines;
                }
                text.next();
                if (!text.takeSign(';')) {
                    return lines;
                }
                lines++;
            }
            return lines;
        }

        /** Reads up to the LINE's last TOKEN and stays at it. */
        private boolean readLine(Text text) {
            if (text.word == Word.BOOK) {
                return readBook(text);
            }
            if (text.word == Word.AFTER) {
                return readAfter(text);
            }
            if (text.word == Word.READER) {
                return readReader(text);
            }
            if (text.word == Word.FINE) {
                return readFine(text);
            }
            return text.stop(FAULT_TOKEN);
        }

        private boolean readBook(Text text) {
            if (books >= MOST_BOOKS) {
                return text.stop(FAULT_MANY);
            }
            text.next();
            if (!isNewName(text)) {
                return false;
            }
            titles[books] = text.name;
            text.next();
            pages[books] = text.numberHere(1, MOST_PAGES);
            if (pages[books] == NONE) {
                return false;
            }
            text.next();
            copies[books] = text.numberHere(0, MOST_COPIES);
            if (copies[books] == NONE) {
                return false;
            }
            after[books] = 0;
            books++;
            return true;
        }

        private boolean readAfter(Text text) {
            if (afters >= MOST_AFTERS) {
                return text.stop(FAULT_MANY);
            }
            text.next();
            int later = bookHere(text);
            if (later == NONE) {
                return false;
            }
            text.next();
            int earlier = bookHere(text);
            if (earlier == NONE) {
                return false;
            }
            if (later == earlier || isIn(after[later], earlier)) {
                return text.stop(FAULT_NAME);
            }
            after[later] |= 1 << earlier;
            afters++;
            return true;
        }

        private boolean readReader(Text text) {
            if (readers >= MOST_READERS) {
                return text.stop(FAULT_MANY);
            }
            text.next();
            if (!isNewName(text)) {
                return false;
            }
            names[readers] = text.name;
            text.next();
            pace[readers] = text.numberHere(1, MOST_PACE);
            if (pace[readers] == NONE) {
                return false;
            }
            readers++;
            return true;
        }

        private boolean readFine(Text text) {
            if (fineTold) {
                return text.stop(FAULT_NAME);
            }
            text.next();
            fine = text.numberHere(0, MOST_FINE);
            fineTold = true;
            return fine != NONE;
        }

        private boolean isNewName(Text text) {
            if (text.kind != Text.NAME) {
                return text.stop(FAULT_TOKEN);
            }
            if (bookCalled(text.name) != NONE || readerCalled(text.name) != NONE) {
                return text.stop(FAULT_NAME);
            }
            return true;
        }

        /** The BOOK that the TOKEN names; NONE with a FAULT. */
        int bookHere(Text text) {
            if (text.kind != Text.NAME) {
                text.stop(FAULT_TOKEN);
                return NONE;
            }
            int b = bookCalled(text.name);
            if (b == NONE) {
                text.stop(FAULT_NAME);
            }
            return b;
        }

        /** The READER that the TOKEN names; NONE with a FAULT. */
        int readerHere(Text text) {
            if (text.kind != Text.NAME) {
                text.stop(FAULT_TOKEN);
                return NONE;
            }
            int r = readerCalled(text.name);
            if (r == NONE) {
                text.stop(FAULT_NAME);
            }
            return r;
        }

        private int bookCalled(long name) {
            for (int b = 0; b < books; b++) {
                if (titles[b] == name) {
                    return b;
                }
            }
            return NONE;
        }

        private int readerCalled(long name) {
            for (int r = 0; r < readers; r++) {
                if (names[r] == name) {
                    return r;
                }
            }
            return NONE;
        }
    }

    /** All that days and acts change. READERS and BOOKS that come in here are such as there are. */
    private static final class State {
        int day = 0;
        int forged = 0;
        int booksRead = 0;
        int pagesRead = 0;
        final int[] in = new int[MOST_BOOKS];
        final int[] has = new int[MOST_READERS];
        final int[] left = new int[MOST_READERS];
        final int[] fines = new int[MOST_READERS];
        final int[] read = new int[MOST_READERS];
        // The draws' x: of one call alone, so it is neither copied nor kept.
        private int x = 0;

        State() {
            Arrays.fill(has, NONE);
        }

        void begin(Library library) {
            day = 0;
            forged = 0;
            booksRead = 0;
            pagesRead = 0;
            System.arraycopy(library.copies, 0, in, 0, MOST_BOOKS);
            Arrays.fill(has, NONE);
            Arrays.fill(left, 0);
            Arrays.fill(fines, 0);
            Arrays.fill(read, 0);
        }

        void copyFrom(State other) {
            day = other.day;
            forged = other.forged;
            booksRead = other.booksRead;
            pagesRead = other.pagesRead;
            System.arraycopy(other.in, 0, in, 0, MOST_BOOKS);
            System.arraycopy(other.has, 0, has, 0, MOST_READERS);
            System.arraycopy(other.left, 0, left, 0, MOST_READERS);
            System.arraycopy(other.fines, 0, fines, 0, MOST_READERS);
            System.arraycopy(other.read, 0, read, 0, MOST_READERS);
        }

        private boolean isFit(Library library, int r, int b) {
            return isIn(forged, b) || (library.after[b] & ~read[r]) == 0;
        }

        private int whyNotLend(Library library, int r, int b) {
            if (has[r] != NONE) {
                return 1;
            }
            if (isIn(read[r], b)) {
                return 2;
            }
            if (!isFit(library, r, b)) {
                return 3;
            }
            return in[b] < 1 ? 4 : 0;
        }

        int lendTo(Library library, int r, int b) {
            int why = whyNotLend(library, r, b);
            if (why == 0) {
                in[b]--;
                has[r] = b;
                left[r] = library.pages[b];
            }
            return why;
        }

        int takeBack(Library library, int r) {
            if (has[r] == NONE) {
                return 1;
            }
            putIn(r);
            fines[r] = Math.min(MOST_FINES, fines[r] + library.fine);
            return 0;
        }

        private void putIn(int r) {
            int b = has[r];
            if (b >= 0 && b < MOST_BOOKS) {
                in[b]++;
            }
            has[r] = NONE;
            left[r] = 0;
        }

        int tellOn(Library library, int r, int b, int q) {
            if (r == q) {
                return 1;
            }
            if (!isIn(read[r], b)) {
                return 2;
            }
            if (isIn(read[q], b)) {
                return 3;
            }
            if (!isFit(library, q, b) || has[q] == b) {
                return 4;
            }
            read[q] |= 1 << b;
            booksRead++;
            return 0;
        }

        int forgeIt(Library library, int b) {
            if (isIn(forged, b)) {
                return 1;
            }
            if (library.after[b] == 0) {
                return 2;
            }
            forged |= 1 << b;
            return 0;
        }

        int mendIt(int b) {
            if (!isIn(forged, b)) {
                return 1;
            }
            forged &= ~(1 << b);
            return 0;
        }

        int burnOne(int b) {
            if (in[b] < 1) {
                return 1;
            }
            in[b]--;
            return 0;
        }

        int buyOne(int b) {
            if (in[b] >= MOST_IN_TO_BUY) {
                return 1;
            }
            in[b]++;
            return 0;
        }

        /** How many DAYS went by. */
        int passDays(Library library, int n) {
            int gone = 0;
            while (gone < n && day < LAST_DAY) {
                passDay(library);
                gone++;
            }
            return gone;
        }

        private void passDay(Library library) {
            for (int r = 0; r < library.readers; r++) {
                readOn(library, r);
            }
            day++;
        }

        private void readOn(Library library, int r) {
            int paid = Math.min(library.pace[r], fines[r]);
            fines[r] -= paid;
            pagesRead += paid;
            if (has[r] == NONE) {
                return;
            }
            int turned = Math.min(library.pace[r] - paid, left[r]);
            left[r] -= turned;
            pagesRead += turned;
            if (left[r] == 0) {
                read[r] |= 1 << has[r];
                booksRead++;
                putIn(r);
            }
        }

        /** How many DAYS went by. */
        int drawDays(Library library, int n, int seed) {
            x = seed;
            int gone = 0;
            while (gone < n && day < LAST_DAY) {
                for (int r = 0; r < library.readers && library.books > 0; r++) {
                    drawAct(library, r);
                }
                passDay(library);
                gone++;
            }
            return gone;
        }

        private void drawAct(Library library, int r) {
            int act = draw(8);
            if (act <= 4) {
                lendTo(library, r, draw(library.books));
            } else if (act == 5) {
                if (draw(4) == 0) {
                    takeBack(library, r);
                }
            } else if (act == 6) {
                int b = draw(library.books);
                int q = draw(library.readers);
                tellOn(library, r, b, q);
            }
        }

        private int draw(int n) {
            x = x * 1103515245 + 12345;
            return n < 1 ? 0 : (x >>> 8) % n;
        }

        int lendable(Library library, int r) {
            int set = 0;
            for (int b = 0; b < library.books; b++) {
                if (whyNotLend(library, r, b) == 0) {
                    set |= 1 << b;
                }
            }
            return set;
        }

        int readOrHas(int r) {
            return has[r] == NONE ? read[r] : read[r] | 1 << has[r];
        }

        int copiesOut(int b) {
            int out = 0;
            for (int r = 0; r < MOST_READERS; r++) {
                if (has[r] == b) {
                    out++;
                }
            }
            return out;
        }

        int allOut() {
            int out = 0;
            for (int r = 0; r < MOST_READERS; r++) {
                if (has[r] != NONE) {
                    out++;
                }
            }
            return out;
        }

        int readersOf(int b) {
            int set = 0;
            for (int r = 0; r < MOST_READERS; r++) {
                if (isIn(read[r], b)) {
                    set |= 1 << r;
                }
            }
            return set;
        }

        int readByAny() {
            int set = 0;
            for (int r = 0; r < MOST_READERS; r++) {
                set |= read[r];
            }
            return set;
        }

        int fined() {
            int set = 0;
            for (int r = 0; r < MOST_READERS; r++) {
                if (fines[r] > 0) {
                    set |= 1 << r;
                }
            }
            return set;
        }
    }

    /** A RECORD's LINES. */
    private static final class RecordText {
        private static final int MOST_BYTES = 400;
        private static final int MOST_LINES = 40;

        // An act's number is what its whys are counted from.
        private static final int LEND = 0;
        private static final int RETURN = 10;
        private static final int TELL = 20;
        private static final int FORGE = 30;
        private static final int MEND = 40;
        private static final int BURN = 50;
        private static final int BUY = 60;
        private static final int DAY = 70;

        int whyWrong = 0;
        private int lines = 0;
        private final int[] act = new int[MOST_LINES];
        private final int[] who = new int[MOST_LINES];
        // A BOOK, or of a 'day' how many.
        private final int[] what = new int[MOST_LINES];
        private final int[] whom = new int[MOST_LINES];

        void readFrom(Text text, Library library) {
            lines = 0;
            text.begin(MOST_BYTES);
            for (int i = 0; i < MOST_BYTES && text.kind != Text.END; i++) {
                if (!readLine(text, library)) {
                    return;
                }
                text.next();
                if (!text.takeSign(';')) {
                    return;
                }
                lines++;
            }
        }

        /** Reads up to the LINE's last TOKEN and stays at it. */
        private boolean readLine(Text text, Library library) {
            Word first = text.word;
            int r = NONE;
            if (first == null) {
                r = library.readerHere(text);
                if (r == NONE) {
                    return false;
                }
            } else if (first != Word.DAY && actOnBook(first) == NONE) {
                return text.stop(FAULT_TOKEN);
            }
            if (lines >= MOST_LINES) {
                return text.stop(FAULT_MANY);
            }
            text.next();
            if (first == null) {
                return readDeed(text, library, r);
            }
            if (first == Word.DAY) {
                act[lines] = DAY;
                what[lines] = text.numberHere(1, MOST_DAYS_A_CALL);
                return what[lines] != NONE;
            }
            act[lines] = actOnBook(first);
            what[lines] = library.bookHere(text);
            return what[lines] != NONE;
        }

        private static int actOnBook(Word word) {
            if (word == Word.FORGE) {
                return FORGE;
            }
            if (word == Word.MEND) {
                return MEND;
            }
            if (word == Word.BURN) {
                return BURN;
            }
            return word == Word.BUY ? BUY : NONE;
        }

        private boolean readDeed(Text text, Library library, int r) {
            who[lines] = r;
            if (text.word == Word.RETURNS) {
                act[lines] = RETURN;
                return true;
            }
            boolean tells = text.word == Word.TELLS;
            if (!tells && text.word != Word.LENDS) {
                return text.stop(FAULT_TOKEN);
            }
            act[lines] = tells ? TELL : LEND;
            text.next();
            what[lines] = library.bookHere(text);
            if (what[lines] == NONE || !tells) {
                return what[lines] != NONE;
            }
            text.next();
            whom[lines] = library.readerHere(text);
            return whom[lines] != NONE;
        }

        /** Lives the LINES up to the first that is WRONG: how many. */
        int live(Library library, State state) {
            whyWrong = 0;
            for (int i = 0; i < lines; i++) {
                int why = liveLine(i, library, state);
                if (why != 0) {
                    whyWrong = act[i] + why;
                    return i;
                }
            }
            return lines;
        }

        private int liveLine(int i, Library library, State state) {
            switch (act[i]) {
                case LEND: return state.lendTo(library, who[i], what[i]);
                case RETURN: return state.takeBack(library, who[i]);
                case TELL: return state.tellOn(library, who[i], what[i], whom[i]);
                case FORGE: return state.forgeIt(library, what[i]);
                case MEND: return state.mendIt(what[i]);
                case BURN: return state.burnOne(what[i]);
                case BUY: return state.buyOne(what[i]);
                default:
                    if (LAST_DAY - state.day < what[i]) {
                        return 1;
                    }
                    state.passDays(library, what[i]);
                    return 0;
            }
        }
    }

    /** A SENTENCE as steps, each behind those that it joins; 0 ONES: there is none. */
    private static final class Sentence {
        private static final int MOST_BYTES = 200;
        private static final int MOST_ONES = 20;
        private static final int MOST_WITHIN = 8;
        private static final int MOST_NUMBER = 999;
        private static final int MOST_STEPS = 2 * MOST_ONES;

        int ones = 0;
        private int steps = 0;
        private final Word[] step = new Word[MOST_STEPS];
        private final int[] sign = new int[MOST_STEPS];
        // A BOOK, or the number behind a sign.
        private final int[] value = new int[MOST_STEPS];
        private final int[] stack = new int[MOST_STEPS];

        void forget() {
            ones = 0;
            steps = 0;
        }

        void copyFrom(Sentence other) {
            ones = other.ones;
            steps = other.steps;
            for (int i = 0; i < MOST_STEPS; i++) {
                step[i] = other.step[i];
            }
            System.arraycopy(other.sign, 0, sign, 0, MOST_STEPS);
            System.arraycopy(other.value, 0, value, 0, MOST_STEPS);
        }

        void readFrom(Text text, Library library) {
            forget();
            text.begin(MOST_BYTES);
            if (readCond(text, library, 1) && text.kind != Text.END) {
                text.stop(FAULT_TOKEN);
            }
        }

        private boolean readCond(Text text, Library library, int depth) {
            if (!readAll(text, library, depth)) {
                return false;
            }
            for (int i = 0; i < MOST_BYTES && text.word == Word.OR; i++) {
                text.next();
                if (!readAll(text, library, depth)) {
                    return false;
                }
                addStep(Word.OR, 0, 0);
            }
            return true;
        }

        private boolean readAll(Text text, Library library, int depth) {
            if (!readOne(text, library, depth)) {
                return false;
            }
            for (int i = 0; i < MOST_BYTES && text.word == Word.AND; i++) {
                text.next();
                if (!readOne(text, library, depth)) {
                    return false;
                }
                addStep(Word.AND, 0, 0);
            }
            return true;
        }

        private boolean readOne(Text text, Library library, int depth) {
            Word first = text.word;
            boolean bracket = text.kind == '(';
            if (!bracket && !canBegin(first)) {
                return text.stop(FAULT_TOKEN);
            }
            if (ones >= MOST_ONES || depth > MOST_WITHIN) {
                return text.stop(FAULT_MANY);
            }
            ones++;
            text.next();
            if (bracket) {
                return readCond(text, library, depth + 1) && text.takeSign(')');
            }
            if (first == Word.NOT) {
                if (!readOne(text, library, depth + 1)) {
                    return false;
                }
                addStep(Word.NOT, 0, 0);
                return true;
            }
            return readPlain(text, library, first);
        }

        private static boolean canBegin(Word word) {
            return word == Word.NOT || isState(word) || isOfBook(word) || isMeasure(word);
        }

        private static boolean isState(Word word) {
            return word == Word.IDLE || word == Word.FINED || word == Word.DONE;
        }

        private static boolean isOfBook(Word word) {
            return word == Word.HAS || word == Word.READ;
        }

        private static boolean isMeasure(Word word) {
            return word == Word.PACE || word == Word.LEFT || word == Word.OWES
                    || word == Word.NUMBER;
        }

        private boolean readPlain(Text text, Library library, Word first) {
            if (isState(first)) {
                addStep(first, 0, 0);
                return true;
            }
            if (isOfBook(first)) {
                int b = library.bookHere(text);
                if (b == NONE) {
                    return false;
                }
                text.next();
                addStep(first, 0, b);
                return true;
            }
            int than = text.kind;
            if (than != '<' && than != '=' && than != '>') {
                return text.stop(FAULT_TOKEN);
            }
            text.next();
            int number = text.numberHere(0, MOST_NUMBER);
            if (number == NONE) {
                return false;
            }
            text.next();
            addStep(first, than, number);
            return true;
        }

        private void addStep(Word word, int than, int number) {
            if (steps < MOST_STEPS) {
                step[steps] = word;
                sign[steps] = than;
                value[steps] = number;
                steps++;
            }
        }

        /** The READERS of whom it may be said, as bits: all are judged at once, step by step. */
        int trueOf(Library library, State state) {
            int all = (1 << library.readers) - 1;
            int top = 0;
            for (int i = 0; i < steps; i++) {
                Word word = step[i];
                if (word == Word.NOT && top >= 1) {
                    stack[top - 1] ^= all;
                } else if (word == Word.AND && top >= 2) {
                    top--;
                    stack[top - 1] &= stack[top];
                } else if (word == Word.OR && top >= 2) {
                    top--;
                    stack[top - 1] |= stack[top];
                } else if (top < MOST_STEPS) {
                    stack[top] = plainlyTrueOf(i, library, state);
                    top++;
                }
            }
            return top < 1 ? 0 : stack[top - 1];
        }

        private int plainlyTrueOf(int i, Library library, State state) {
            int set = 0;
            for (int r = 0; r < library.readers; r++) {
                if (holds(i, library, state, r)) {
                    set |= 1 << r;
                }
            }
            return set;
        }

        private boolean holds(int i, Library library, State state, int r) {
            Word word = step[i];
            if (word == Word.IDLE) {
                return state.has[r] == NONE;
            }
            if (word == Word.FINED) {
                return state.fines[r] > 0;
            }
            if (word == Word.DONE) {
                return state.read[r] == library.allBooks();
            }
            if (word == Word.HAS) {
                return state.has[r] == value[i];
            }
            if (word == Word.READ) {
                return isIn(state.read[r], value[i]);
            }
            int measured = measure(word, library, state, r);
            if (sign[i] == '<') {
                return measured < value[i];
            }
            return sign[i] == '=' ? measured == value[i] : measured > value[i];
        }

        private static int measure(Word word, Library library, State state, int r) {
            if (word == Word.PACE) {
                return library.pace[r];
            }
            if (word == Word.LEFT) {
                return state.left[r];
            }
            return word == Word.OWES ? state.fines[r] : r;
        }
    }

    /** All that an image keeps. */
    private static final class Shelf {
        boolean kept = false;
        final Library library = new Library();
        final State state = new State();
        final Sentence sentence = new Sentence();

        void copyFrom(Shelf other) {
            library.copyFrom(other.library);
            state.copyFrom(other.state);
            sentence.copyFrom(other.sentence);
        }
    }

    /** What acts can be undone to. */
    private static final class History {
        private static final int MOST = 8;
        // One more than are kept: an act that is refused must not cost the oldest one.
        private static final int PLACES = MOST + 1;

        private final State[] states = new State[PLACES];
        private int top = 0;
        private int many = 0;

        History() {
            for (int i = 0; i < PLACES; i++) {
                states[i] = new State();
            }
        }

        /** Holds what is so ahead of an act that may yet be refused. */
        void hold(State state) {
            states[top].copyFrom(state);
        }

        /** The act was done: what was held is kept. */
        void keep() {
            top = (top + 1) % PLACES;
            many = Math.min(MOST, many + 1);
        }

        /** How many more can be undone; NONE: none is. */
        int takeBack(State state) {
            if (many < 1) {
                return NONE;
            }
            top = (top + MOST) % PLACES;
            many--;
            state.copyFrom(states[top]);
            return many;
        }

        void forget() {
            many = 0;
        }
    }

    /** Which BOOK is AFTER which, FORGED ones AFTER none. */
    private static final class Order {
        private int books = 0;
        private final int[] after = new int[MOST_BOOKS];
        private final int[] steps = new int[MOST_BOOKS];
        final int[] way = new int[MOST_BOOKS];
        int wayLength = 0;
        final int[] ring = new int[MOST_BOOKS];
        int ringLength = 0;

        void take(Library library, int forged) {
            books = Math.min(library.books, MOST_BOOKS);
            for (int b = 0; b < books; b++) {
                after[b] = isIn(forged, b) ? 0 : library.after[b];
            }
        }

        /** BOOKS outside a set for which one is FIT who has READ all of it. */
        private int openTo(int set) {
            int open = 0;
            for (int b = 0; b < books; b++) {
                if (!isIn(set, b) && (after[b] & ~set) == 0) {
                    open |= 1 << b;
                }
            }
            return open;
        }

        /** A set and all BOOKS that can come to be READ from it on. */
        int grown(int set) {
            int all = set;
            int open = openTo(all);
            for (int i = 0; i < books && open != 0; i++) {
                all |= open;
                open = openTo(all);
            }
            return all;
        }

        /** How long the longest chain ahead of it is: in which round it opens; NONE: never. */
        int depthOf(int b) {
            int all = 0;
            for (int round = 0; round < books; round++) {
                all |= openTo(all);
                if (isIn(all, b)) {
                    return round;
                }
            }
            return NONE;
        }

        /** All that a BOOK is AFTER, over others, too. */
        int allBefore(int b) {
            int all = after[b];
            for (int i = 0; i < books; i++) {
                for (int other = 0; other < books; other++) {
                    if (isIn(all, other)) {
                        all |= after[other];
                    }
                }
            }
            return all;
        }

        int ringed() {
            int set = 0;
            for (int b = 0; b < books; b++) {
                if (isIn(allBefore(b), b)) {
                    set |= 1 << b;
                }
            }
            return set;
        }

        /** The BOOKS to FORGE so that no RING is left, as bits. */
        int leastCut() {
            int all = (1 << books) - 1;
            int best = all;
            for (int set = 0; set <= all; set++) {
                if (Integer.bitCount(set) < Integer.bitCount(best) && opensAll(set)) {
                    best = set;
                }
            }
            return best;
        }

        /** Whether every BOOK can come to be READ with those of a set FORGED, too. */
        private boolean opensAll(int forgedToo) {
            return grown(forgedToo) == (1 << books) - 1;
        }

        /** Leaves the WAY in way; the BOOK is EVER his and not READ. */
        void findWay(int b, int read, int has) {
            int needed = neededFor(b, read, has);
            int done = read;
            wayLength = 0;
            if (isIn(needed, has)) {
                done |= putOnWay(has);
            }
            int open = openTo(done) & needed;
            for (int i = 0; i < books && open != 0; i++) {
                done |= putOnWay(leastOf(open));
                open = openTo(done) & needed;
            }
        }

        private int leastOf(int set) {
            for (int b = 0; b < books; b++) {
                if (isIn(set, b)) {
                    return b;
                }
            }
            return NONE;
        }

        private int neededFor(int b, int read, int has) {
            int needed = 1 << b;
            for (int i = 0; i < books; i++) {
                for (int other = 0; other < books; other++) {
                    if (other != has && isIn(needed, other)) {
                        needed |= after[other] & ~read;
                    }
                }
            }
            return needed;
        }

        /** The BOOK as a bit. */
        private int putOnWay(int b) {
            if (wayLength < MOST_BOOKS) {
                way[wayLength] = b;
                wayLength++;
            }
            return 1 << b;
        }

        /** Leaves the RING in ring; false, and the last one stays, if there is none. */
        boolean findRing(int b) {
            countSteps(b);
            int least = leastSteps(after[b]);
            if (least == NONE) {
                return false;
            }
            ring[0] = b;
            ringLength = 1;
            int at = b;
            for (int left = least; left > 0 && ringLength < MOST_BOOKS; left--) {
                at = firstWith(after[at], left);
                if (at == NONE) {
                    return false;
                }
                ring[ringLength] = at;
                ringLength++;
            }
            return true;
        }

        /** How many steps each BOOK is from one that it is AFTER, over others; NONE: it is not. */
        private void countSteps(int goal) {
            for (int b = 0; b < books; b++) {
                steps[b] = b == goal ? 0 : NONE;
            }
            for (int far = 1; far < books; far++) {
                for (int b = 0; b < books; b++) {
                    if (steps[b] == NONE && firstWith(after[b], far - 1) != NONE) {
                        steps[b] = far;
                    }
                }
            }
        }

        private int leastSteps(int set) {
            for (int far = 0; far < books; far++) {
                if (firstWith(set, far) != NONE) {
                    return far;
                }
            }
            return NONE;
        }

        private int firstWith(int set, int far) {
            for (int b = 0; b < books; b++) {
                if (isIn(set, b) && steps[b] == far) {
                    return b;
                }
            }
            return NONE;
        }
    }

    /** Who gets which BOOK AT ONCE. */
    private static final class Handout {
        private final int[] given = new int[MOST_READERS];
        private int readers = 0;
        private final int[] wants = new int[MOST_READERS];
        private final int[] copies = new int[MOST_BOOKS];
        private final int[] tried = new int[MOST_READERS];
        private final int[] used = new int[MOST_BOOKS];
        private int seen = 0;

        Handout() {
            Arrays.fill(given, NONE);
        }

        /** The most READERS; leaves the first such way in given. */
        int find(Library library, State state) {
            readers = Math.min(library.readers, MOST_READERS);
            for (int r = 0; r < readers; r++) {
                wants[r] = state.lendable(library, r);
            }
            System.arraycopy(state.in, 0, copies, 0, MOST_BOOKS);
            Arrays.fill(given, NONE);
            int most = mostFrom(0);
            int done = 0;
            for (int r = 0; r < readers; r++) {
                given[r] = leastFor(r, most - done - 1);
                if (given[r] != NONE) {
                    done++;
                }
            }
            return most;
        }

        /** By the READERS that there were then: the LIBRARY may be another one by now. */
        int bookOf(int r) {
            return r >= 0 && r < readers && r < MOST_READERS ? given[r] : NONE;
        }

        /** The least BOOK with which so many behind him still get one, taken; NONE: none. */
        private int leastFor(int r, int behind) {
            for (int b = 0; b < MOST_BOOKS; b++) {
                if (isIn(wants[r], b) && copies[b] > 0) {
                    copies[b]--;
                    if (mostFrom(r + 1) >= behind) {
                        return b;
                    }
                    copies[b]++;
                }
            }
            return NONE;
        }

        /** How many READERS from one on can each get one of the copies that are left. */
        private int mostFrom(int first) {
            Arrays.fill(tried, NONE);
            Arrays.fill(used, 0);
            int many = 0;
            for (int r = first; r < readers; r++) {
                seen = 0;
                if (seat(r, 0)) {
                    many++;
                }
            }
            return many;
        }

        /** Gives one a BOOK, others changing theirs for it; each level sees one BOOK more. */
        private boolean seat(int r, int depth) {
            if (depth > MOST_BOOKS) {
                return false;
            }
            for (int b = 0; b < MOST_BOOKS; b++) {
                if (!isIn(wants[r] & ~seen, b)) {
                    continue;
                }
                seen |= 1 << b;
                if (used[b] < copies[b]) {
                    used[b]++;
                    tried[r] = b;
                    return true;
                }
                if (someoneLeaves(b, depth)) {
                    tried[r] = b;
                    return true;
                }
            }
            return false;
        }

        private boolean someoneLeaves(int b, int depth) {
            for (int q = 0; q < readers; q++) {
                if (tried[q] == b && seat(q, depth + 1)) {
                    return true;
                }
            }
            return false;
        }
    }
}
