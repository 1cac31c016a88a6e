/** Promises 37 and 38: SENTENCES, and of whom they may be said. */
final class SentenceTest {
    private static final String LIBRARY = "book a 10 9;book b 8 9;after b a;"
            + "reader p 5;reader q 10;reader r 1;reader s 10;fine 3;";

    public static void main(String[] args) {
        said();
        joined();
        counted();
        everyOneCounts();
        within();
        faults();
        tooLong();
        whatStays();
        Check.finish();
    }

    /** q has READ a and b, r has a with 9 left, p owes 3 and is idle, s has READ a and has b. */
    private static SequelShelf shelf() {
        SequelShelf x = Check.shelf(LIBRARY);
        x.lend(1, 0);
        x.lend(3, 0);
        x.lend(2, 0);
        x.days(1);
        x.lend(1, 1);
        x.days(1);
        x.back(2);
        x.days(3);
        x.lend(2, 0);
        x.days(1);
        x.lend(3, 1);
        x.lend(0, 0);
        x.back(0);
        return x;
    }

    private static void is(SequelShelf x, String text, int ones, int... whom) {
        Check.sentence(x, text, ones, 0);
        Check.same("said(-1) of " + text, x.said(-1), whom.length);
        for (int k = 0; k < whom.length; k++) {
            Check.same("said(" + k + ") of " + text, x.said(k), whom[k]);
        }
        for (int k : new int[] {whom.length, -2, Integer.MIN_VALUE, Integer.MAX_VALUE}) {
            Check.same("said(" + k + ") of " + text, x.said(k), -1);
        }
    }

    private static void said() {
        SequelShelf x = shelf();
        Check.same("no SENTENCE", x.said(-1), -1);
        Check.same("no SENTENCE", x.said(0), -1);
        is(x, "idle", 1, 0, 1);
        is(x, "fined", 1, 0);
        is(x, "done", 1, 1);
        is(x, "has a", 1, 2);
        is(x, "has b", 1, 3);
        is(x, "read a", 1, 1, 3);
        is(x, "read b", 1, 1);
        is(x, "pace<10", 1, 0, 2);
        is(x, "pace = 10", 1, 1, 3);
        is(x, "pace >4", 1, 0, 1, 3);
        is(x, "left=9", 1, 2);
        is(x, "left > 0", 1, 2, 3);
        is(x, "left = 0", 1, 0, 1);
        is(x, "left < 9", 1, 0, 1, 3);
        is(x, "owes = 3", 1, 0);
        is(x, "owes < 3", 1, 1, 2, 3);
        is(x, "owes > 3", 1);
        is(x, "number = 2", 1, 2);
        is(x, "number > 000", 1, 1, 2, 3);
        is(x, "number < 999", 1, 0, 1, 2, 3);
        is(Check.shelf("reader p 1;"), "done", 1, 0);
        is(Check.shelf("book a 1 1;"), "idle", 1);
        x = shelf();
        is(x, "idle", 1, 0, 1);
        x.lend(0, 0);
        Check.same("it is said of what is now", x.said(-1), 1);
        x.undo();
        Check.same("it is said of what is now", x.said(-1), 2);
    }

    private static void joined() {
        SequelShelf x = shelf();
        is(x, "not idle", 2, 2, 3);
        is(x, "not not idle", 3, 0, 1);
        is(x, "idle and fined", 2, 0);
        is(x, "has b or has a", 2, 2, 3);
        is(x, "has a or idle and fined", 3, 0, 2);
        is(x, "fined and idle or has a", 3, 0, 2);
        is(x, "(has a or idle)and fined", 4, 0);
        is(x, "has a or (idle and fined)", 4, 0, 2);
        is(x, "not idle and has a", 3, 2);
        is(x, "not (idle and has a)", 4, 0, 1, 2, 3);
        is(x, "not idle or fined", 3, 0, 2, 3);
        is(x, "not(idle or fined)", 4, 2, 3);
        is(x, "has a or has b or fined or done", 4, 0, 1, 2, 3);
        is(x, "idle and idle and idle and done", 4, 1);
        is(x, "((idle))", 3, 0, 1);
        is(x, "number=0 or number=1 and number=2 or number=3", 4, 0, 3);
        is(x, "not pace<10\nand not\n( number = 1 )", 5, 3);
    }

    private static void counted() {
        SequelShelf x = shelf();
        String nineteen = Check.times(19, "done or ");
        is(x, nineteen + "done", 20, 1);
        Check.sentence(x, nineteen + "done or idle", -1 - 160, 4);
        Check.sentence(x, nineteen + "done or (idle)", -1 - 160, 4);
        Check.sentence(x, nineteen + "done or x", -1 - 160, 1);
        Check.sentence(x, nineteen + "not done", -1 - 156, 4);
        Check.sentence(x, nineteen + "(done)", -1 - 153, 4);
        Check.sentence(x, nineteen + "done or pace = 1000", -1 - 160, 4);
        Check.same("the latest stays", x.said(-1), 1);
    }

    /** Of 20 ONES the last one is judged as the first is. */
    private static void everyOneCounts() {
        SequelShelf x = shelf();
        for (int at = 0; at < 20; at++) {
            String or = Check.times(at, "owes=9 or ") + "has a" + Check.times(19 - at, " or owes=9");
            is(x, or, 20, 2);
            String and = Check.times(at, "has a and ") + "fined" + Check.times(19 - at, " and has a");
            is(x, and, 20);
        }
        is(x, Check.times(19, "has a and ") + "has a", 20, 2);
        is(x, Check.times(9, "not idle and ") + "not has a", 20, 3);
        is(x, Check.times(9, "(fined)or ") + "(has a)", 20, 0, 2);
        is(x, "(" + Check.times(18, "fined or ") + "has a)", 20, 0, 2);
    }

    private static void within() {
        SequelShelf x = shelf();
        is(x, Check.times(7, "not ") + "idle", 8, 2, 3);
        Check.sentence(x, Check.times(8, "not ") + "idle", -1 - 32, 4);
        Check.sentence(x, Check.times(8, "not ") + "or", -1 - 32, 1);
        Check.sentence(x, Check.times(8, "not "), -1 - 32, 1);
        is(x, Check.times(7, "(") + "idle" + Check.times(7, ")"), 8, 0, 1);
        Check.sentence(x, Check.times(8, "(") + "idle" + Check.times(8, ")"), -1 - 8, 4);
        Check.sentence(x, Check.times(9, "(") + "idle" + Check.times(9, ")"), -1 - 8, 4);
        is(x, "not(not(not(not idle and idle)))and not(not(not(not fined)))", 17, 0);
        is(x, "not(not(not(not idle and idle)))and " + Check.times(7, "not ") + "fined", 17, 1, 2, 3);
        Check.sentence(x, "idle and not(not(not(not(idle))))", -1 - 25, 4);
    }

    private static void faults() {
        SequelShelf x = shelf();
        Check.sentence(x, "", -1, 1);
        Check.sentence(x, "  ", -3, 1);
        Check.sentence(x, ";", -1, 1);
        Check.sentence(x, "idle;", -5, 1);
        Check.sentence(x, "idle idle", -6, 1);
        Check.sentence(x, "idle)", -5, 1);
        Check.sentence(x, "(idle", -6, 1);
        Check.sentence(x, "(idle ", -7, 1);
        Check.sentence(x, "()", -2, 1);
        Check.sentence(x, "(idle;", -6, 1);
        Check.sentence(x, "and", -1, 1);
        Check.sentence(x, "or idle", -1, 1);
        Check.sentence(x, "idle or", -8, 1);
        Check.sentence(x, "idle and or idle", -10, 1);
        Check.sentence(x, "not", -4, 1);
        Check.sentence(x, "not and", -5, 1);
        Check.sentence(x, "a", -1, 1);
        Check.sentence(x, "p", -1, 1);
        Check.sentence(x, "5", -1, 1);
        Check.sentence(x, "lends", -1, 1);
        Check.sentence(x, "has", -4, 1);
        Check.sentence(x, "has 5", -5, 1);
        Check.sentence(x, "has read", -5, 1);
        Check.sentence(x, "has x", -5, 3);
        Check.sentence(x, "has p", -5, 3);
        Check.sentence(x, "read q", -6, 3);
        Check.sentence(x, "read b c", -8, 1);
        Check.sentence(x, "pace", -5, 1);
        Check.sentence(x, "pace 5", -6, 1);
        Check.sentence(x, "pace (", -6, 1);
        Check.sentence(x, "pace < a", -8, 1);
        Check.sentence(x, "pace <= 5", -7, 1);
        Check.sentence(x, "pace = 1000", -8, 1);
        Check.sentence(x, "pace = 5 6", -10, 1);
        Check.sentence(x, "pace = and x", -8, 1);
        Check.sentence(x, "pace = or pace = 1000", -8, 1);
        Check.sentence(x, "has zz and has", -5, 3);
        Check.sentence(x, "has and zz", -5, 1);
        Check.sentence(x, "idle5", -1, 1);
        Check.sentence(x, "idle and fined.", -15, 1);
        Check.sentence(x, "Idle", -1, 1);
        Check.same("no SENTENCE", x.said(-1), -1);
    }

    private static void tooLong() {
        SequelShelf x = shelf();
        is(x, "idle" + Check.times(196, " "), 1, 0, 1);
        Check.sentence(x, "idle" + Check.times(197, " "), -201, 1);
        Check.sentence(x, Check.times(197, " ") + "idle", -201, 1);
        Check.sentence(x, Check.times(197, " ") + "idlee", -198, 1);
        Check.sentence(x, Check.times(195, " ") + "has xyz", -200, 3);
        Check.sentence(x, Check.times(196, " ") + "has xyz", -201, 1);
        Check.sentence(x, Check.times(20, "not ") + Check.times(160, " "), -33, 4);
    }

    private static void whatStays() {
        SequelShelf x = shelf();
        is(x, "has a", 1, 2);
        Check.sentence(x, "has c", -5, 3);
        Check.same("it stays", x.said(0), 2);
        Check.record(x, "", 0, -1, 0);
        Check.same("it stays", x.said(0), 2);
        Check.library(x, "x", -1, 1);
        Check.same("it stays", x.said(0), 2);
        Check.library(x, LIBRARY, 8, 0);
        Check.same("a new LIBRARY has none", x.said(-1), -1);
    }
}
