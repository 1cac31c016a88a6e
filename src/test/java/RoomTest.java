import java.lang.management.ManagementFactory;

/** All calls of a run share one room: an object is small, and no call makes anything. */
final class RoomTest {
    private static final int MOST_BYTES_OF_AN_OBJECT = 40_000;
    private static final int MOST_BYTES_OF_A_CALL = 2;
    private static final int ROUNDS = 2000;

    private static int sum = 0;

    public static void main(String[] args) {
        calls(full(), 1);
        long ahead = used();
        SequelShelf x = new SequelShelf();
        long made = used() - ahead;
        Check.yes("an object of " + made + " bytes", made <= MOST_BYTES_OF_AN_OBJECT && x.count(0) == 0);
        x = full();
        ahead = used();
        int many = calls(x, ROUNDS);
        long byCalls = (used() - ahead) / many;
        Check.yes("a call made " + byCalls + " bytes", byCalls < MOST_BYTES_OF_A_CALL);
        Check.yes("answers were used", sum != 0);
        Check.finish();
    }

    private static long used() {
        return ((com.sun.management.ThreadMXBean) ManagementFactory.getThreadMXBean())
                .getThreadAllocatedBytes(Thread.currentThread().getId());
    }

    private static SequelShelf full() {
        return Check.shelf("book a 9 2;book b 8 1;book c 7 3;book d 6 9;after b a;after c b;after d c;after c d;"
                + "reader p 1;reader q 3;reader r 5;fine 2;");
    }

    private static int calls(SequelShelf x, int rounds) {
        for (int i = 0; i < rounds; i++) {
            texts(x);
            sum += x.lend(0, 0) + x.tell(0, 0, 1) + x.back(0) + x.forge(1) + x.mend(1) + x.burn(3) + x.buy(3);
            sum += x.days(1) + x.drawn(2, i) + x.odds(0, 0, 1, i) + x.undo();
            sum += x.way(0, 1) + x.wayAt(0) + x.ring(2) + x.ringAt(0) + x.cut() + x.cutting() + x.deep(1);
            sum += x.mean(1, 0) + x.atOnce() + x.atOnceOf(0) + x.slip(0) + x.byteAt(0) + x.said(-1) + x.told(0);
            sum += x.reader(0, 6) + x.reader(0, 5) + x.book(0, 5) + x.now(7) + x.count(0) + x.fault();
            sum += (x.image(0) ? 1 : 0) + (x.restore(0) ? 1 : 0) + x.fitting() + x.ask();
        }
        return 45 * rounds;
    }

    /** 'day 1;' as a RECORD, 'done' as a SENTENCE, one pair, and a LIBRARY that has a FAULT. */
    private static void texts(SequelShelf x) {
        sum += x.feed(0x64617920, 0x313b2020, 0, 0, 0) + (x.end(6) ? 1 : 0) + x.record(1);
        sum += x.feed(0x646f6e65, 0, 0, 0, 0) + (x.end(4) ? 1 : 0) + x.sentence();
        sum += x.feed(0x01010000, 0, 0, 0, 0) + (x.end(2) ? 1 : 0) + x.fits();
        sum += x.feed(0x626f6f6b, 0x20612030, 0, 0, 0) + x.library();
    }
}
