/** Promises 31 and 32: SLIPS. */
final class SlipTest {
    public static void main(String[] args) {
        SequelShelf x = new SequelShelf();
        Check.same("no such READER", x.slip(0), -1);
        x = Check.shelf("book abcdefg 99 1;book z 10 1;reader tuvwxyz 1;reader a 4;fine 30;");
        Check.text("slip(0)", Check.slip(x, 0), "tuvwxyz idle");
        x.lend(0, 0);
        Check.text("slip(0)", Check.slip(x, 0), "tuvwxyz has abcdefg 99");
        for (int i = 0; i < 4; i++) {
            x.back(0);
            x.lend(0, 0);
        }
        Check.text("slip(0)", Check.slip(x, 0), "tuvwxyz has abcdefg 99 owes 99");
        x.lend(1, 1);
        Check.text("slip(1)", Check.slip(x, 1), "a has z 10");
        x.days(1);
        Check.text("slip(0)", Check.slip(x, 0), "tuvwxyz has abcdefg 99 owes 98");
        Check.text("slip(1)", Check.slip(x, 1), "a has z 6");
        x.back(1);
        x.days(7);
        Check.text("slip(1)", Check.slip(x, 1), "a idle owes 2");
        x.days(1);
        Check.same("no such READER", x.slip(2), -1);
        Check.same("no such READER", x.slip(-1), -1);
        Check.same("no such READER", x.slip(Integer.MIN_VALUE), -1);
        Check.same("the latest SLIP stays", x.byteAt(0), 'a');
        Check.same("the latest SLIP stays", x.byteAt(12), '2');
        Check.same("behind it", x.byteAt(13), -1);
        Check.same("ahead of it", x.byteAt(-1), -1);
        Check.same("far behind it", x.byteAt(Integer.MAX_VALUE), -1);
        Check.same("far ahead of it", x.byteAt(Integer.MIN_VALUE), -1);
        Check.text("slip(1)", Check.slip(x, 1), "a idle");
        Check.put(x, "");
        x.library();
        Check.same("a new LIBRARY leaves it", x.byteAt(2), 'i');
        digits();
        Check.finish();
    }

    /** Numbers of one and of two digits, down to the last page of both. */
    private static void digits() {
        SequelShelf x = Check.shelf("book bb 12 1;reader pp 1;fine 11;");
        x.lend(0, 0);
        x.back(0);
        x.lend(0, 0);
        for (int owes = 11; owes > 0; owes--) {
            Check.text("slip(0)", Check.slip(x, 0), "pp has bb 12 owes " + owes);
            x.days(1);
        }
        for (int left = 12; left > 0; left--) {
            Check.text("slip(0)", Check.slip(x, 0), "pp has bb " + left);
            x.days(1);
        }
        Check.text("slip(0)", Check.slip(x, 0), "pp idle");
        Check.same("how many bytes", x.slip(0), 7);
    }
}
