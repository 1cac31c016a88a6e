import java.util.ArrayList;
import java.util.Arrays;
import java.util.HashSet;
import java.util.List;
import java.util.Set;

/**
 * FAULTS, place by place: in every LINE and ONE each TOKEN is put for every other sort of TOKEN, and
 * the kind and the place of the FAULT are due by what may stand there.
 */
final class FaultTableTest {
    private static final String LIBRARY = "book a 1 1;book b 1 1;reader p 1;reader q 1;";
    private static final Set<String> LIBRARY_FIRST = Set.of("book", "after", "reader", "fine");
    private static final Set<String> DEEDS = Set.of("lends", "returns", "tells");
    private static final Set<String> ACTS = Set.of("forge", "mend", "burn", "buy", "day");
    private static final Set<String> STATES = Set.of("idle", "fined", "done");
    private static final Set<String> OF_BOOKS = Set.of("has", "read");
    private static final Set<String> MEASURES = Set.of("pace", "left", "owes", "number");
    private static final Set<String> SIGNS = Set.of("<", "=", ">");
    private static final Set<String> OTHER_WORDS = Set.of("or", "and", "not");

    private static final Set<String> WORDS = new HashSet<>();
    private static final List<String> TOKENS = new ArrayList<>();
    private static final String AT_THE_END = "";

    public static void main(String[] args) {
        for (Set<String> words : List.of(LIBRARY_FIRST, DEEDS, ACTS, STATES, OF_BOOKS, MEASURES, OTHER_WORDS)) {
            WORDS.addAll(words);
        }
        TOKENS.addAll(WORDS);
        TOKENS.addAll(Arrays.asList(AT_THE_END, ";", "<", "=", ">", "(", ")", ".", "#", "A", "\t", "a", "p",
                "zzzzzzz", "zzzzzzzz", "a1", "1a", "booka", "0", "1", "9", "10", "30", "31", "60", "61", "99",
                "100", "999", "0000", "1000"));
        for (String text : new String[] {"book new 1..99 0..9 ;", "after BOOK OTHER ;", "reader new 1..30 ;",
            "fine 0..30 ;"}) {
            places(text, "library");
        }
        for (String text : new String[] {"READER lends BOOK ;", "READER returns ;", "READER tells BOOK READER ;",
            "forge BOOK ;", "mend BOOK ;", "burn BOOK ;", "buy BOOK ;", "day 1..60 ;", "day 1..60 ; buy BOOK ;"}) {
            places(text, "record");
        }
        for (String text : new String[] {"idle END", "fined END", "done END", "has BOOK END", "read BOOK END",
            "pace SIGN 0..999 END", "left SIGN 0..999 END", "owes SIGN 0..999 END", "number SIGN 0..999 END",
            "not idle END", "( idle ) END", "idle or has BOOK END", "idle and not idle END"}) {
            places(text, "sentence");
        }
        Check.finish();
    }

    /** Each place of a LINE or ONE, told by what may stand there, with each TOKEN in it. */
    private static void places(String text, String call) {
        String[] slots = text.split(" ");
        String ahead = call.equals("library") ? LIBRARY : "";
        for (int at = 0; at < slots.length; at++) {
            for (String token : TOKENS) {
                if (mayStand(slots, at, token, call)) {
                    continue;
                }
                String whole = ahead + token;
                if (!token.equals(AT_THE_END)) {
                    // What follows is as it should be, and then a FAULT that is not the first.
                    whole += " " + goodFrom(slots, at + 1) + " # 1000 ; day 0 ;";
                }
                boolean aReaderMay = isFirst(slots, at) && call.equals("record");
                spoilt(whole, ahead.length(), kindOf(aReaderMay ? "READER" : slots[at], token), call);
            }
            ahead += good(slots[at]) + " ";
        }
    }

    private static boolean isFirst(String[] slots, int at) {
        return at == 0 || slots[at - 1].equals(";");
    }

    private static void spoilt(String text, int place, int kind, String call) {
        SequelShelf x = Check.shelf(LIBRARY);
        if (call.equals("library")) {
            Check.library(x, text, -1 - place, kind);
        } else if (call.equals("record")) {
            Check.record(x, text, 1, -2 - place, kind);
        } else {
            Check.sentence(x, text, -1 - place, kind);
        }
        Check.same("BOOKS stay", x.count(0), 2);
        Check.same("READERS stay", x.count(2), 2);
        Check.same("no LINE is lived", x.now(0), 0);
        Check.same("no SENTENCE", x.said(-1), -1);
    }

    private static String good(String slot) {
        switch (slot) {
            case "new": return "n";
            case "BOOK": return "a";
            case "OTHER": return "b";
            case "READER": return "p";
            case "SIGN": return "<";
            case "END": return "";
            default: return slot.contains("..") ? slot.substring(0, slot.indexOf('.')) : slot;
        }
    }

    private static String goodFrom(String[] slots, int from) {
        StringBuilder text = new StringBuilder();
        for (int i = from; i < slots.length; i++) {
            text.append(good(slots[i])).append(' ');
        }
        return text.toString();
    }

    private static boolean isNumber(String token) {
        return token.matches("[0-9]{1,3}");
    }

    private static boolean isName(String token) {
        return token.matches("[a-z]{1,7}") && !WORDS.contains(token);
    }

    private static boolean inRange(String slot, String token) {
        int dots = slot.indexOf("..");
        int n = Integer.parseInt(token);
        return n >= Integer.parseInt(slot.substring(0, dots)) && n <= Integer.parseInt(slot.substring(dots + 2));
    }

    /** Whether the text can go on with it: no FAULT is at this TOKEN. */
    private static boolean mayStand(String[] slots, int at, String token, String call) {
        if (call.equals("sentence")) {
            return mayStandInSentence(slots, at, token);
        }
        if (isFirst(slots, at)) {
            boolean library = call.equals("library");
            return token.equals(AT_THE_END) || (library ? LIBRARY_FIRST : ACTS).contains(token)
                    || !library && token.equals("p");
        }
        return slots[0].equals("READER") && at == 1 ? DEEDS.contains(token) : fills(slots[at], token);
    }

    private static boolean mayStandInSentence(String[] slots, int at, String token) {
        boolean aOne = STATES.contains(token) || OF_BOOKS.contains(token) || MEASURES.contains(token)
                || token.equals("not") || token.equals("(");
        boolean joins = token.equals("or") || token.equals("and");
        switch (slots[at]) {
            case ")": return joins || token.equals(")");
            case "or":
            case "and":
            case "END": return joins || token.equals(AT_THE_END);
            case "BOOK":
            case "SIGN":
            case "0..999": return fills(slots[at], token);
            default: return aOne;
        }
    }

    private static boolean fills(String slot, String token) {
        switch (slot) {
            case "new": return isName(token) && !token.equals("a") && !token.equals("p");
            case "BOOK": return token.equals("a");
            // Here the other BOOK is told last, and it may not be the first one, too.
            case "OTHER": return token.equals("b");
            case "READER": return token.equals("p");
            case "SIGN": return SIGNS.contains(token);
            default: return slot.contains("..") ? isNumber(token) && inRange(slot, token) : token.equals(slot);
        }
    }

    private static int kindOf(String slot, String token) {
        boolean name = slot.equals("new") || slot.equals("BOOK") || slot.equals("OTHER") || slot.equals("READER");
        if (name && isName(token)) {
            return 3;
        }
        return slot.contains("..") && isNumber(token) ? 2 : 1;
    }
}
