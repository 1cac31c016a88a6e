/** The run that README.md shows, with the answers that it tells, fed as it says. */
final class ReadmeTest {
    public static void main(String[] args) {
        SequelShelf x = new SequelShelf();
        put(x, "book pot 10 1; book pan 6 1; after pan pot; reader ann 5; reader bob 2; fine 3;");
        Check.same("library()", x.library(), 6);
        Check.same("lend(0, 1)", x.lend(0, 1), 3);
        Check.same("lend(0, 0)", x.lend(0, 0), 0);
        Check.same("way(0, 1)", x.way(0, 1), 4);
        Check.same("days(2)", x.days(2), 2);
        Check.same("reader(0, 4)", x.reader(0, 4), 1);
        Check.same("undo()", x.undo(), 1);

        put(x, "day 2; ann tells pot bob; bob lends pan; day 1;");
        Check.same("record(1)", x.record(1), -1);
        Check.same("reader(1, 2)", x.reader(1, 2), 4);

        put(x, "not idle and left < 5");
        Check.same("sentence()", x.sentence(), 3);
        Check.same("said(-1)", x.said(-1), 1);
        Check.same("said(0)", x.said(0), 1);

        put(x, "book pot 10;");
        Check.same("library()", x.library(), -12);
        Check.same("fault()", x.fault(), 1);
        Check.finish();
    }

    private static void put(SequelShelf x, String text) {
        x.end(0);
        for (int i = 0; i < text.length(); i += 20) {
            x.feed(four(text, i), four(text, i + 4), four(text, i + 8), four(text, i + 12), four(text, i + 16));
        }
        x.end(text.length());
    }

    private static int four(String text, int at) {
        int sum = 0;
        for (int i = at; i < at + 4; i++) {
            sum = sum << 8 | (i < text.length() ? text.charAt(i) : 0);
        }
        return sum;
    }
}
