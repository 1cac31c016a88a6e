/** Promises 35 and 36: RECORDS. */
final class RecordTest {
    private static final String LIBRARY = "book a 10 1;book b 8 1;book c 6 9;after b a;"
            + "reader p 5;reader q 10;";

    public static void main(String[] args) {
        lives();
        whys();
        lastLine();
        readByTheFirst();
        days();
        faults();
        tooMany();
        tooLong();
        whatStays();
        Check.finish();
    }

    private static void told(SequelShelf x, int why, int lines, int day, int read) {
        Check.same("told(0)", x.told(0), why);
        Check.same("told(1)", x.told(1), lines);
        Check.same("told(2)", x.told(2), day);
        Check.same("told(3)", x.told(3), read);
        Check.same("told(4)", x.told(4), -1);
        Check.same("told(-1)", x.told(-1), -1);
        Check.same("told(least)", x.told(Integer.MIN_VALUE), -1);
    }

    private static void lives() {
        SequelShelf x = Check.shelf(LIBRARY);
        Check.put(x, "day 1;");
        Check.same("another lives", x.record(2), -1000);
        Check.same("another lives", x.record(-1), -1000);
        Check.same("the tape stays", x.count(4), 6);
        Check.same("told(0)", x.told(0), -1);
        Check.same("the tape is a RECORD still", x.record(1), -1);
        Check.same("told(1)", x.told(1), 1);
        Check.same("DAY", x.now(0), 1);
        x = Check.shelf(LIBRARY);
        Check.record(x, "", 0, -1, 0);
        told(x, 0, 0, 0, 0);
        Check.record(x, "q lends a; day 1;\nq tells a p;p lends b;", 0, -1, 0);
        told(x, 0, 4, 1, 1);
        Check.same("all stays as it is", x.now(0), 0);
        Check.same("all stays as it is", x.reader(1, 4), 0);
        Check.same("nothing to undo", x.undo(), -1);
        Check.record(x, "q lends a;day 1;q tells a p;p lends b;", 1, -1, 0);
        told(x, 0, 4, 1, 1);
        Check.same("lived", x.now(0), 1);
        Check.same("lived", x.reader(0, 1), 1);
        Check.same("lived", x.reader(0, 4), 1);
        Check.record(x, "day 1;q lends c;p returns;p returns;day 5;", 0, 3, 0);
        told(x, 11, 3, 2, 1);
        Check.same("all stays as it is", x.now(0), 1);
        Check.record(x, "day 1;q lends c;p returns;p returns;day 5;", 1, 3, 0);
        told(x, 11, 3, 2, 1);
        Check.same("lived as far", x.now(0), 2);
        Check.same("lived as far", x.reader(0, 3), 5);
        Check.same("lived as far", x.reader(1, 1), 2);
        Check.record(x, "p returns;day 5;", 1, 0, 0);
        told(x, 11, 0, 2, 1);
        Check.same("undo()", x.undo(), 1);
        Check.same("as ahead of it", x.reader(0, 1), 1);
        Check.same("undo()", x.undo(), 0);
        Check.same("as ahead of all", x.now(0), 0);
    }

    private static void why(String text, int line, int why) {
        SequelShelf x = Check.shelf(LIBRARY);
        Check.record(x, text, 0, line, 0);
        Check.same("told(0) of " + text, x.told(0), why);
    }

    private static void whys() {
        why("p lends a;p lends a;", 1, 1);
        why("p lends a;day 2;p lends a;", 2, 2);
        why("p lends b;", 0, 3);
        why("p lends a;q lends a;", 1, 4);
        why("p lends a;p returns;p returns;", 2, 11);
        why("p tells a p;", 0, 21);
        why("p tells a q;", 0, 22);
        why("p lends c;day 9;q lends c;day 9;p tells c q;", 4, 23);
        why("forge b;p lends b;day 9;mend b;p tells b q;", 4, 24);
        why("p lends c;day 9;q lends c;p tells c q;", 3, 24);
        why("forge b;forge b;", 1, 31);
        why("forge a;", 0, 32);
        why("forge b;mend b;mend b;", 2, 41);
        why("burn a;burn a;", 1, 51);
        why("burn c;buy c;buy c;", 2, 61);
        why("buy a;burn a;", -1, 0);
    }

    /** The last of 40 LINES is WRONG; 39 are lived, and undone together. */
    private static void lastLine() {
        SequelShelf x = Check.shelf(LIBRARY);
        String text = Check.times(39, "day 1;") + "p returns;";
        Check.record(x, text, 0, 39, 0);
        told(x, 11, 39, 39, 0);
        Check.same("all stays", x.now(0), 0);
        Check.record(x, text, 1, 39, 0);
        told(x, 11, 39, 39, 0);
        Check.same("lived", x.now(0), 39);
        Check.same("undo()", x.undo(), 0);
        Check.same("undone", x.now(0), 0);
        Check.same("undo()", x.undo(), -1);
    }

    private static void readByTheFirst() {
        SequelShelf x = Check.shelf(LIBRARY);
        Check.record(x, "p lends a;day 2;", 0, -1, 0);
        told(x, 0, 2, 2, 1);
        Check.record(x, "p lends a;q lends c;day 1;p returns;day 1;", 0, -1, 0);
        told(x, 0, 5, 2, 4);
        Check.record(x, "p lends a;day 2;p lends c;day 2;p lends b;day 2;", 0, -1, 0);
        told(x, 0, 6, 6, 7);
        Check.record(x, "", 0, -1, 0);
        told(x, 0, 0, 0, 0);
        x.lend(0, 0);
        x.days(2);
        Check.same("READ by somebody", x.now(3), 1);
        Check.record(x, "", 1, -1, 0);
        told(x, 0, 0, 2, 1);
        Check.same("a RECORD without LINES is no act", x.undo(), 1);
    }

    private static void days() {
        SequelShelf x = Check.shelf(LIBRARY);
        Check.record(x, Check.times(6, "day 60;") + "day 39;", 1, -1, 0);
        told(x, 0, 7, 399, 0);
        Check.record(x, "p lends c;day 2;", 1, 1, 0);
        told(x, 71, 1, 399, 0);
        Check.same("none of the two went by", x.now(0), 399);
        Check.same("the LINE ahead was lived", x.reader(0, 1), 2);
        Check.record(x, "day 1;day 1;", 1, 1, 0);
        told(x, 71, 1, 400, 0);
        Check.record(x, "day 1;", 1, 0, 0);
        told(x, 71, 0, 400, 0);
        Check.record(x, "q lends a;", 1, -1, 0);
    }

    private static void fault(String text, int place, int kind) {
        SequelShelf x = Check.shelf(LIBRARY);
        Check.record(x, text, 0, -2 - place, kind);
        Check.record(x, text, 1, -2 - place, kind);
        Check.same("nothing is told of it", x.told(0), -1);
        Check.same("nothing is lived", x.now(0), 0);
    }

    private static void faults() {
        fault(";", 0, 1);
        fault("day 1", 5, 1);
        fault("day 1  ", 7, 1);
        fault("day;", 3, 1);
        fault("day p;", 4, 1);
        fault("day 1;x", 6, 3);
        fault("day 1;lends", 6, 1);
        fault("day 1;book", 6, 1);
        fault("day 1;7", 6, 1);
        fault("day 0;", 4, 2);
        fault("day 61;", 4, 2);
        fault("day 1 1;", 6, 1);
        fault("p;", 1, 1);
        fault("p forge a;", 2, 1);
        fault("p day 1;", 2, 1);
        fault("p q;", 2, 1);
        fault("p lends;", 7, 1);
        fault("p lends p;", 8, 3);
        fault("p lends x;", 8, 3);
        fault("p lends day;", 8, 1);
        fault("p lends 1;", 8, 1);
        fault("p lends a a;", 10, 1);
        fault("p returns a;", 10, 1);
        fault("p tells a;", 9, 1);
        fault("p tells a a;", 10, 3);
        fault("p tells a x;", 10, 3);
        fault("p tells q a;", 8, 3);
        fault("p tells a idle;", 10, 1);
        fault("a lends a;", 0, 3);
        fault("x lends a;", 0, 3);
        fault("forge p;", 6, 3);
        fault("mend x;", 5, 3);
        fault("burn;", 4, 1);
        fault("buy buy;", 4, 1);
        fault("buy a lends;", 6, 1);
        fault("p lendss a;", 2, 1);
        fault("p lends a.", 9, 1);
        // A FAULT goes ahead of a LINE that is WRONG.
        fault("p returns;day 0;", 14, 2);
    }

    private static void tooMany() {
        SequelShelf x = Check.shelf(LIBRARY);
        String forty = Check.times(40, "day 1;");
        Check.record(x, forty, 0, -1, 0);
        Check.same("told(1)", x.told(1), 40);
        Check.record(x, forty + "day 1;", 0, -242, 4);
        Check.record(x, forty + " p x", 0, -243, 4);
        Check.record(x, forty + "buy", 0, -242, 4);
        Check.record(x, forty + "x", 0, -242, 3);
        Check.record(x, forty + "a", 0, -242, 3);
        Check.record(x, forty + "lends", 0, -242, 1);
        Check.record(x, forty + ";", 0, -242, 1);
        Check.record(x, forty + "12", 0, -242, 1);
    }

    private static void tooLong() {
        SequelShelf x = Check.shelf(LIBRARY);
        Check.record(x, "day 1;" + Check.times(394, " "), 0, -1, 0);
        Check.record(x, "day 1;" + Check.times(395, "\n"), 0, -402, 1);
        Check.record(x, Check.times(395, " ") + "day 1;", 0, -402, 1);
        Check.record(x, Check.times(395, " ") + "day 61;", 0, -401, 2);
        Check.record(x, Check.times(399, " ") + "xyz lends a;", 0, -401, 3);
        Check.record(x, Check.times(400, " ") + "xyz lends a;", 0, -402, 1);
        Check.record(x, "x" + Check.times(500, " "), 0, -2, 3);
        Check.record(x, Check.times(40, "day 1;") + Check.times(159, " ") + "day 1;", 0, -401, 4);
    }

    private static void whatStays() {
        SequelShelf x = Check.shelf(LIBRARY);
        Check.record(x, "p lends b;", 0, 0, 0);
        Check.record(x, "day", 0, -5, 1);
        told(x, 3, 0, 0, 0);
        Check.put(x, "day 1;");
        x.record(7);
        Check.same("-1000 leaves the FAULT", x.fault(), 1);
        told(x, 3, 0, 0, 0);
        Check.put(x, LIBRARY);
        x.library();
        told(x, 3, 0, 0, 0);
        Check.same("no FAULT", x.fault(), 0);
    }
}
