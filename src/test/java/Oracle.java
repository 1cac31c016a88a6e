import java.util.ArrayDeque;
import java.util.ArrayList;
import java.util.Arrays;
import java.util.Deque;
import java.util.HashSet;
import java.util.LinkedHashMap;
import java.util.List;
import java.util.Map;
import java.util.NoSuchElementException;
import java.util.Set;
import java.util.TreeSet;
import java.util.function.Predicate;

/**
 * A second reading of the document, slow and plain: sets instead of bits, trials instead of
 * methods. RandomRunsTest holds the class against it.
 */
final class Oracle {
    static final int NONE = -1;
    private static final Set<String> WORDS = Set.of("book", "after", "reader", "fine", "lends",
            "returns", "tells", "forge", "mend", "burn", "buy", "day", "or", "and", "not", "idle",
            "fined", "done", "has", "read", "pace", "left", "owes", "number");

    static final class Fault extends Exception {
        private static final long serialVersionUID = 1L;
        final int kind;
        final int place;

        Fault(int kind, int place) {
            this.kind = kind;
            this.place = place;
        }
    }

    record Token(String text, int place, char sort) {
        boolean is(String other) {
            return sort != '!' && text.equals(other);
        }
    }

    static final class Book implements Cloneable {
        String name;
        int pages;
        int in;
        boolean forged;
        Set<Integer> after = new TreeSet<>();

        Book copy() {
            Book b = new Book();
            b.name = name;
            b.pages = pages;
            b.in = in;
            b.forged = forged;
            b.after = after;
            return b;
        }
    }

    static final class Person {
        String name;
        int pace;
        int has = NONE;
        int left;
        int fines;
        Set<Integer> read = new TreeSet<>();

        Person copy() {
            Person p = new Person();
            p.name = name;
            p.pace = pace;
            p.has = has;
            p.left = left;
            p.fines = fines;
            p.read = new TreeSet<>(read);
            return p;
        }
    }

    static final class World {
        List<Book> books = new ArrayList<>();
        List<Person> people = new ArrayList<>();
        int fine = 5;
        int day;
        int booksRead;
        int pagesRead;

        World copy() {
            World w = new World();
            for (Book b : books) {
                w.books.add(b.copy());
            }
            for (Person p : people) {
                w.people.add(p.copy());
            }
            w.fine = fine;
            w.day = day;
            w.booksRead = booksRead;
            w.pagesRead = pagesRead;
            return w;
        }

        boolean fit(int r, int b) {
            return books.get(b).forged || people.get(r).read.containsAll(books.get(b).after);
        }

        int whyLend(int r, int b) {
            if (people.get(r).has != NONE) return 1;
            if (people.get(r).read.contains(b)) return 2;
            if (!fit(r, b)) return 3;
            return books.get(b).in == 0 ? 4 : 0;
        }

        int lend(int r, int b) {
            int why = whyLend(r, b);
            if (why == 0) {
                books.get(b).in--;
                people.get(r).has = b;
                people.get(r).left = books.get(b).pages;
            }
            return why;
        }

        int back(int r) {
            Person p = people.get(r);
            if (p.has == NONE) return 1;
            books.get(p.has).in++;
            p.has = NONE;
            p.left = 0;
            p.fines += fine;
            if (p.fines > 99) p.fines = 99;
            return 0;
        }

        int tell(int r, int b, int q) {
            if (r == q) return 1;
            if (!people.get(r).read.contains(b)) return 2;
            if (people.get(q).read.contains(b)) return 3;
            if (!fit(q, b)) return 4;
            if (people.get(q).has == b) return 4;
            people.get(q).read.add(b);
            booksRead++;
            return 0;
        }

        int forge(int b) {
            if (books.get(b).forged) return 1;
            if (books.get(b).after.isEmpty()) return 2;
            books.get(b).forged = true;
            return 0;
        }

        int mend(int b) {
            if (!books.get(b).forged) return 1;
            books.get(b).forged = false;
            return 0;
        }

        int burn(int b) {
            if (books.get(b).in == 0) return 1;
            books.get(b).in--;
            return 0;
        }

        int buy(int b) {
            if (books.get(b).in >= 9) return 1;
            books.get(b).in++;
            return 0;
        }

        void aDay() {
            for (Person p : people) {
                for (int page = 0; page < p.pace; page++) {
                    if (p.fines > 0) {
                        p.fines--;
                        pagesRead++;
                    } else if (p.has != NONE) {
                        p.left--;
                        pagesRead++;
                        if (p.left == 0) {
                            p.read.add(p.has);
                            booksRead++;
                            books.get(p.has).in++;
                            p.has = NONE;
                        }
                    }
                }
            }
            day++;
        }

        int days(int n) {
            int went = 0;
            for (int i = 0; i < n; i++) {
                if (day == 400) break;
                aDay();
                went++;
            }
            return went;
        }

        int drawn(int n, int seed) {
            long[] x = {seed & 0xffffffffL};
            int went = 0;
            for (int i = 0; i < n && day != 400; i++) {
                for (int r = 0; r < people.size(); r++) {
                    if (books.isEmpty()) break;
                    switch (draw(x, 8)) {
                        case 0, 1, 2, 3, 4 -> lend(r, draw(x, books.size()));
                        case 5 -> {
                            if (draw(x, 4) == 0) back(r);
                        }
                        case 6 -> {
                            int b = draw(x, books.size());
                            tell(r, b, draw(x, people.size()));
                        }
                        default -> { }
                    }
                }
                aDay();
                went++;
            }
            return went;
        }

        private static int draw(long[] x, int n) {
            x[0] = (x[0] * 1103515245L + 12345L) & 0xffffffffL;
            return (int) ((x[0] / 256) % n);
        }

        Set<Integer> before(int b) {
            return books.get(b).forged ? Set.of() : books.get(b).after;
        }

        int anyRead() {
            int bits = 0;
            for (Person p : people) bits |= bits(p.read);
            return bits;
        }
    }

    static int bits(Set<Integer> set) {
        int sum = 0;
        for (int i : set) sum += 1 << i;
        return sum;
    }

    World w = new World();
    private Predicate<int[]> sentence;
    private byte[] tape = new byte[0];
    private int fault;
    private final Deque<World> undo = new ArrayDeque<>();
    private List<Integer> way = List.of();
    private List<Integer> ring = List.of();
    private int cutting = NONE;
    private int fitting = NONE;
    private int ask = NONE;
    private int[] once = {NONE, NONE, NONE, NONE, NONE, NONE};
    private String slip = "";
    private int[] told = {NONE, NONE, NONE, NONE};
    private final World[] images = new World[2];
    private final List<Predicate<int[]>> imageSentences = new ArrayList<>(Arrays.asList(null, null));

    // ---- texts

    private List<Token> tokens;
    private int at;
    private int ones;

    private void scan(int most) {
        tokens = new ArrayList<>();
        int i = 0;
        while (i < tape.length && i < most) {
            char c = (char) (tape[i] & 255);
            int from = i;
            if (c == ' ' || c == '\n') {
                i++;
                continue;
            }
            while (i < tape.length && ("" + (char) (tape[i] & 255)).matches("[a-z0-9]")) i++;
            if (i == from) i++;
            StringBuilder text = new StringBuilder();
            for (int k = from; k < i; k++) text.append((char) (tape[k] & 255));
            String t = text.toString();
            char sort = t.matches("[a-z]{1,7}") ? (WORDS.contains(t) ? 'w' : 'n')
                    : t.matches("[0-9]{1,3}") ? '9' : t.matches("[;<=>()]") ? 's' : '!';
            tokens.add(new Token(t, from, sort));
        }
        boolean more = tape.length > most;
        tokens.add(new Token(more ? "more" : "", more ? most : tape.length, more ? '!' : 'e'));
        at = 0;
    }

    private Token peek() {
        return tokens.get(at);
    }

    private Token pop() throws Fault {
        Token t = peek();
        if (t.sort == '!' || t.sort == 'e') throw new Fault(1, t.place);
        at++;
        return t;
    }

    private void sign(String s) throws Fault {
        Token t = pop();
        if (!t.text.equals(s)) throw new Fault(1, t.place);
    }

    private int number(int low, int high) throws Fault {
        Token t = pop();
        if (t.sort != '9') throw new Fault(1, t.place);
        int n = Integer.parseInt(t.text);
        if (n < low || n > high) throw new Fault(2, t.place);
        return n;
    }

    private Token name() throws Fault {
        Token t = pop();
        if (t.sort != 'n') throw new Fault(1, t.place);
        return t;
    }

    private static int find(World of, String name, boolean book) {
        if (book) {
            for (int b = 0; b < of.books.size(); b++) {
                if (of.books.get(b).name.equals(name)) return b;
            }
        } else {
            for (int r = 0; r < of.people.size(); r++) {
                if (of.people.get(r).name.equals(name)) return r;
            }
        }
        return NONE;
    }

    private int named(World of, boolean book) throws Fault {
        Token t = name();
        int i = find(of, t.text, book);
        if (i == NONE) throw new Fault(3, t.place);
        return i;
    }

    private String newName(World of) throws Fault {
        Token t = name();
        if (find(of, t.text, true) != NONE || find(of, t.text, false) != NONE) {
            throw new Fault(3, t.place);
        }
        return t.text;
    }

    private int lines;

    private World parseLibrary() throws Fault {
        World v = new World();
        boolean fineTold = false;
        int afters = 0;
        lines = 0;
        scan(900);
        while (peek().sort != 'e') {
            Token t = pop();
            switch (t.text) {
                case "book" -> {
                    if (v.books.size() == 8) throw new Fault(4, t.place);
                    Book b = new Book();
                    b.name = newName(v);
                    b.pages = number(1, 99);
                    b.in = number(0, 9);
                    v.books.add(b);
                }
                case "after" -> {
                    if (afters == 16) throw new Fault(4, t.place);
                    int one = named(v, true);
                    int place = peek().place;
                    int two = named(v, true);
                    if (one == two || !v.books.get(one).after.add(two)) throw new Fault(3, place);
                    afters++;
                }
                case "reader" -> {
                    if (v.people.size() == 6) throw new Fault(4, t.place);
                    Person p = new Person();
                    p.name = newName(v);
                    p.pace = number(1, 30);
                    v.people.add(p);
                }
                case "fine" -> {
                    if (fineTold) throw new Fault(3, t.place);
                    fineTold = true;
                    v.fine = number(0, 30);
                }
                default -> throw new Fault(1, t.place);
            }
            sign(";");
            lines++;
        }
        return v;
    }

    private List<int[]> parseRecord() throws Fault {
        List<int[]> all = new ArrayList<>();
        Map<String, Integer> acts = new LinkedHashMap<>();
        acts.put("forge", 3);
        acts.put("mend", 4);
        acts.put("burn", 5);
        acts.put("buy", 6);
        scan(400);
        while (peek().sort != 'e') {
            Token t = pop();
            boolean act = acts.containsKey(t.text);
            boolean day = t.text.equals("day");
            int who = NONE;
            if (!act && !day) {
                if (t.sort != 'n') throw new Fault(1, t.place);
                who = find(w, t.text, false);
                if (who == NONE) throw new Fault(3, t.place);
            }
            if (all.size() == 40) throw new Fault(4, t.place);
            if (act) {
                all.add(new int[] {acts.get(t.text), named(w, true)});
            } else if (day) {
                all.add(new int[] {7, number(1, 60)});
            } else {
                Token verb = pop();
                switch (verb.text) {
                    case "lends" -> all.add(new int[] {0, who, named(w, true)});
                    case "returns" -> all.add(new int[] {1, who});
                    case "tells" -> all.add(new int[] {2, who, named(w, true), named(w, false)});
                    default -> throw new Fault(1, verb.place);
                }
            }
            sign(";");
        }
        return all;
    }

    private Predicate<int[]> cond(int within) throws Fault {
        Predicate<int[]> p = all(within);
        while (peek().is("or")) {
            at++;
            p = p.or(all(within));
        }
        return p;
    }

    private Predicate<int[]> all(int within) throws Fault {
        Predicate<int[]> p = one(within);
        while (peek().is("and")) {
            at++;
            p = p.and(one(within));
        }
        return p;
    }

    private Predicate<int[]> one(int within) throws Fault {
        Token t = pop();
        if (!Set.of("not", "(", "idle", "fined", "done", "has", "read", "pace", "left", "owes",
                "number").contains(t.text)) {
            throw new Fault(1, t.place);
        }
        ones++;
        if (ones > 20 || within > 8) throw new Fault(4, t.place);
        switch (t.text) {
            case "not":
                return one(within + 1).negate();
            case "(":
                Predicate<int[]> p = cond(within + 1);
                sign(")");
                return p;
            case "idle":
                return r -> w.people.get(r[0]).has == NONE;
            case "fined":
                return r -> w.people.get(r[0]).fines != 0;
            case "done":
                return r -> w.people.get(r[0]).read.size() == w.books.size();
            case "has":
                int h = named(w, true);
                return r -> w.people.get(r[0]).has == h;
            case "read":
                int d = named(w, true);
                return r -> w.people.get(r[0]).read.contains(d);
            default:
                Token s = pop();
                if (!"<=>".contains(s.text)) throw new Fault(1, s.place);
                int n = number(0, 999);
                return r -> {
                    Person q = w.people.get(r[0]);
                    int v = t.text.equals("pace") ? q.pace : t.text.equals("left") ? q.left
                            : t.text.equals("owes") ? q.fines : r[0];
                    return s.text.equals("<") ? v < n : s.text.equals(">") ? v > n : v == n;
                };
        }
    }

    // ---- the calls

    private boolean book(int b) {
        return b >= 0 && b < w.books.size();
    }

    private boolean person(int r) {
        return r >= 0 && r < w.people.size();
    }

    void put(byte[] bytes) {
        tape = bytes;
    }

    int library() {
        try {
            World v = parseLibrary();
            w = v;
            undo.clear();
            sentence = null;
            fault = 0;
            return lines;
        } catch (Fault f) {
            fault = f.kind;
            return -1 - f.place;
        } finally {
            tape = new byte[0];
        }
    }

    int fault() {
        return fault;
    }

    int count(int what) {
        int afters = 0;
        for (Book b : w.books) afters += b.after.size();
        return switch (what) {
            case 0 -> w.books.size();
            case 1 -> afters;
            case 2 -> w.people.size();
            case 3 -> w.fine;
            case 4 -> tape.length;
            default -> NONE;
        };
    }

    int reader(int r, int what) {
        if (!person(r) || what < 0 || what > 6) throw new NoSuchElementException();
        Person p = w.people.get(r);
        int could = 0;
        int ever = 0;
        for (int b = 0; b < w.books.size(); b++) {
            if (w.whyLend(r, b) == 0) could += 1 << b;
            if (ever(r, b, new HashSet<>())) ever += 1 << b;
        }
        return new int[] {p.pace, p.has, p.left, p.fines, bits(p.read), could, ever}[what];
    }

    /** Whether he can come to READ it without going round. */
    private boolean ever(int r, int b, Set<Integer> open) {
        Person p = w.people.get(r);
        if (p.read.contains(b) || p.has == b) return true;
        if (!open.add(b)) return false;
        boolean can = true;
        for (int a : w.before(b)) can &= ever(r, a, open);
        open.remove(b);
        return can;
    }

    int book(int b, int what) {
        if (!book(b)) return NONE;
        Book k = w.books.get(b);
        int out = 0;
        int who = 0;
        for (int r = 0; r < w.people.size(); r++) {
            if (w.people.get(r).has == b) out++;
            if (w.people.get(r).read.contains(b)) who += 1 << r;
        }
        return switch (what) {
            case 0 -> k.pages;
            case 1 -> k.in;
            case 2 -> out;
            case 3 -> k.forged ? 1 : 0;
            case 4 -> bits(k.after);
            case 5 -> who;
            default -> NONE;
        };
    }

    int now(int what) {
        int out = 0;
        int forged = 0;
        int fined = 0;
        int rings = 0;
        for (int r = 0; r < w.people.size(); r++) {
            if (w.people.get(r).has != NONE) out++;
            if (w.people.get(r).fines > 0) fined |= 1 << r;
        }
        for (int b = 0; b < w.books.size(); b++) {
            if (w.books.get(b).forged) forged |= 1 << b;
            if (!rings(b).isEmpty()) rings |= 1 << b;
        }
        return switch (what) {
            case 0 -> w.day;
            case 1 -> out;
            case 2 -> forged;
            case 3 -> w.anyRead();
            case 4 -> fined;
            case 5 -> w.booksRead;
            case 6 -> w.pagesRead;
            case 7 -> rings;
            default -> NONE;
        };
    }

    /** Runs an act and keeps what was so ahead of it, if it was done. */
    private int act(boolean such, boolean days, java.util.function.ToIntFunction<World> deed) {
        if (!such) return NONE;
        World old = w.copy();
        int answer = deed.applyAsInt(w);
        if (days ? answer > 0 : answer == 0) keep(old);
        return answer;
    }

    private void keep(World old) {
        undo.push(old);
        if (undo.size() > 8) undo.removeLast();
    }

    int lend(int r, int b) {
        return act(person(r) && book(b), false, v -> v.lend(r, b));
    }

    int back(int r) {
        return act(person(r), false, v -> v.back(r));
    }

    int tell(int r, int b, int q) {
        return act(person(r) && book(b) && person(q), false, v -> v.tell(r, b, q));
    }

    int forge(int b) {
        return act(book(b), false, v -> v.forge(b));
    }

    int mend(int b) {
        return act(book(b), false, v -> v.mend(b));
    }

    int burn(int b) {
        return act(book(b), false, v -> v.burn(b));
    }

    int buy(int b) {
        return act(book(b), false, v -> v.buy(b));
    }

    int days(int n) {
        return act(n > 0 && n <= 60, true, v -> v.days(n));
    }

    int drawn(int n, int seed) {
        return act(n > 0 && n <= 60, true, v -> v.drawn(n, seed));
    }

    int undo() {
        if (undo.isEmpty()) return NONE;
        w = undo.pop();
        return undo.size();
    }

    int way(int r, int b) {
        if (!person(r) || !book(b) || !ever(r, b, new HashSet<>())) return NONE;
        Person p = w.people.get(r);
        if (p.read.contains(b)) {
            way = List.of();
            return 0;
        }
        List<Integer> best = null;
        for (int set = 0; set < 1 << w.books.size(); set++) {
            if ((set >> b & 1) == 0 || (set & bits(p.read)) != 0) continue;
            if (best != null && Integer.bitCount(set) >= best.size()) continue;
            List<Integer> order = inOrder(p, set);
            if (order != null) best = order;
        }
        way = best;
        int pages = p.fines + p.left;
        for (int k : way) {
            if (k != p.has) pages += w.books.get(k).pages;
        }
        int days = 0;
        while (days * p.pace < pages) days++;
        return days;
    }

    /** The set as he READS it, the least first; null: he can't. */
    private List<Integer> inOrder(Person p, int set) {
        List<Integer> order = new ArrayList<>();
        Set<Integer> done = new TreeSet<>(p.read);
        if (p.has != NONE && (set >> p.has & 1) != 0) {
            order.add(p.has);
            done.add(p.has);
        }
        boolean more = true;
        while (more) {
            more = false;
            for (int b = 0; b < w.books.size() && !more; b++) {
                if ((set >> b & 1) != 0 && !done.contains(b) && done.containsAll(w.before(b))) {
                    done.add(b);
                    order.add(b);
                    more = true;
                }
            }
        }
        return order.size() == Integer.bitCount(set) ? order : null;
    }

    int wayAt(int k) {
        return k >= 0 && k < way.size() ? way.get(k) : NONE;
    }

    /** All ways round from a BOOK to itself, the least ahead at each step. */
    private List<List<Integer>> rings(int b) {
        List<List<Integer>> all = new ArrayList<>();
        rings(b, new ArrayList<>(List.of(b)), all);
        return all;
    }

    private void rings(int b, List<Integer> path, List<List<Integer>> all) {
        for (int next : w.before(path.get(path.size() - 1))) {
            if (next == b) all.add(new ArrayList<>(path));
            if (!path.contains(next)) {
                path.add(next);
                rings(b, path, all);
                path.remove(path.size() - 1);
            }
        }
    }

    int ring(int b) {
        if (!book(b)) return NONE;
        List<Integer> best = null;
        for (List<Integer> one : rings(b)) {
            if (best == null || one.size() < best.size()
                    || one.size() == best.size() && one.toString().compareTo(best.toString()) < 0) {
                best = one;
            }
        }
        if (best == null) return NONE;
        ring = best;
        return best.size();
    }

    int ringAt(int k) {
        return k >= 0 && k < ring.size() ? ring.get(k) : NONE;
    }

    int cut() {
        World real = w;
        for (int size = 0; ; size++) {
            for (int set = 0; set < 1 << real.books.size(); set++) {
                if (Integer.bitCount(set) != size) continue;
                w = real.copy();
                for (int b = 0; b < w.books.size(); b++) {
                    if ((set >> b & 1) != 0) w.books.get(b).forged = true;
                }
                boolean none = now(7) == 0;
                w = real;
                if (none) {
                    cutting = set;
                    return size;
                }
            }
        }
    }

    int cutting() {
        return cutting;
    }

    /** Whether it is in a RING or over others AFTER one that is. */
    private boolean behindRing(int b, Set<Integer> seen) {
        if (!rings(b).isEmpty()) return true;
        if (!seen.add(b)) return false;
        boolean is = false;
        for (int a : w.before(b)) is |= behindRing(a, seen);
        return is;
    }

    int deep(int b) {
        if (!book(b) || behindRing(b, new HashSet<>())) return NONE;
        int most = 0;
        for (int a : w.before(b)) most = Math.max(most, 1 + deep(a));
        return most;
    }

    private void needs(int b, Set<Integer> all) {
        all.add(b);
        for (int a : w.before(b)) needs(a, all);
    }

    int mean(int b, int what) {
        if (!book(b) || what < 0 || what > 1 || deep(b) == NONE) throw new NoSuchElementException();
        Set<Integer> all = new TreeSet<>();
        needs(b, all);
        int above = 0;
        for (int k : all) above += w.books.get(k).pages;
        int divisor = java.math.BigInteger.valueOf(above)
                .gcd(java.math.BigInteger.valueOf(all.size())).intValue();
        return (what == 0 ? above : all.size()) / divisor;
    }

    int fits() {
        byte[] t = tape;
        tape = new byte[0];
        int n = w.books.size();
        if (n == 0 || t.length == 0 || t.length > 16 || t.length % 2 != 0) return NONE;
        List<Integer> left = new ArrayList<>();
        for (int set = 0; set < 1 << n; set++) left.add(set);
        for (int i = 0; i < t.length; i += 2) {
            int had = t[i] & 255;
            if (had >= 1 << n || t[i + 1] < 0 || t[i + 1] > 1) return NONE;
            boolean lent = t[i + 1] == 1;
            left.removeIf(set -> ((set | had) == had) != lent);
        }
        if (!left.isEmpty()) {
            fitting = left.stream().min((a, b) -> Integer.bitCount(a) != Integer.bitCount(b)
                    ? Integer.bitCount(a) - Integer.bitCount(b) : a - b).get();
            long best = Long.MAX_VALUE;
            for (int b = 0; b < n; b++) {
                int bit = 1 << b;
                long with = left.stream().filter(set -> (set & bit) != 0).count();
                long most = Math.max(with, left.size() - with);
                if (most < best) {
                    best = most;
                    ask = b;
                }
            }
        }
        return left.size();
    }

    int fitting() {
        return fitting;
    }

    int ask() {
        return ask;
    }

    private int most;

    int atOnce() {
        most = -1;
        int[] in = w.books.stream().mapToInt(b -> b.in).toArray();
        int[] now = new int[6];
        Arrays.fill(now, NONE);
        hand(0, 0, in, now);
        return most;
    }

    private void hand(int r, int many, int[] in, int[] now) {
        if (many + w.people.size() - r <= most) return;
        if (r == w.people.size()) {
            most = many;
            once = now.clone();
            return;
        }
        for (int b = 0; b < in.length; b++) {
            if (in[b] > 0 && w.whyLend(r, b) == 0) {
                in[b]--;
                now[r] = b;
                hand(r + 1, many + 1, in, now);
                now[r] = NONE;
                in[b]++;
            }
        }
        hand(r + 1, many, in, now);
    }

    int atOnceOf(int r) {
        return r >= 0 && r < once.length ? once[r] : NONE;
    }

    int slip(int r) {
        if (!person(r)) return NONE;
        Person p = w.people.get(r);
        slip = p.name + (p.has == NONE ? " idle" : " has " + w.books.get(p.has).name + " " + p.left)
                + (p.fines > 0 ? " owes " + p.fines : "");
        return slip.length();
    }

    int byteAt(int i) {
        return i >= 0 && i < slip.length() ? slip.charAt(i) : NONE;
    }

    int odds(int r, int b, int n, int seed) {
        if (!person(r) || !book(b) || n < 1 || n > 30) return NONE;
        int times = 0;
        for (int i = 0; i < n; i++) {
            World v = w.copy();
            v.drawn(20, seed + i);
            if (v.people.get(r).read.contains(b)) times++;
        }
        return times;
    }

    int record(int lives) {
        if (lives != 0 && lives != 1) return -1000;
        List<int[]> all;
        try {
            all = parseRecord();
            fault = 0;
        } catch (Fault f) {
            fault = f.kind;
            return -2 - f.place;
        } finally {
            tape = new byte[0];
        }
        World v = w.copy();
        int wrong = NONE;
        int why = 0;
        for (int i = 0; i < all.size() && wrong == NONE; i++) {
            int[] l = all.get(i);
            int a = switch (l[0]) {
                case 0 -> v.lend(l[1], l[2]);
                case 1 -> v.back(l[1]);
                case 2 -> v.tell(l[1], l[2], l[3]);
                case 3 -> v.forge(l[1]);
                case 4 -> v.mend(l[1]);
                case 5 -> v.burn(l[1]);
                case 6 -> v.buy(l[1]);
                default -> v.day + l[1] > 400 ? 1 : v.days(l[1]) - l[1];
            };
            if (a != 0) {
                wrong = i;
                why = 10 * l[0] + a;
            }
        }
        int good = wrong == NONE ? all.size() : wrong;
        told = new int[] {why, good, v.day, v.anyRead()};
        if (lives == 1 && good > 0) {
            keep(w);
            w = v;
        }
        return wrong;
    }

    int told(int what) {
        return what >= 0 && what < 4 ? told[what] : NONE;
    }

    int sentence() {
        try {
            ones = 0;
            scan(200);
            Predicate<int[]> p = cond(1);
            if (peek().sort != 'e') throw new Fault(1, peek().place);
            sentence = p;
            fault = 0;
            return ones;
        } catch (Fault f) {
            fault = f.kind;
            return -1 - f.place;
        } finally {
            tape = new byte[0];
        }
    }

    int said(int k) {
        if (sentence == null) return NONE;
        List<Integer> who = new ArrayList<>();
        for (int r = 0; r < w.people.size(); r++) {
            if (sentence.test(new int[] {r})) who.add(r);
        }
        return k == NONE ? who.size() : k >= 0 && k < who.size() ? who.get(k) : NONE;
    }

    boolean image(int k) {
        if (k != 0 && k != 1) return false;
        images[k] = w.copy();
        imageSentences.set(k, sentence);
        return true;
    }

    boolean restore(int k) {
        if (k != 0 && k != 1 || images[k] == null) return false;
        w = images[k].copy();
        sentence = imageSentences.get(k);
        undo.clear();
        return true;
    }
}
