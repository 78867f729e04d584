import java.lang.management.ManagementFactory;
import java.util.Random;

/** What a run of 512 calls makes, of the calls that are dear: far less than the room of all runs. */
public final class RoomTest {
    private static final Check CHECK = new Check("RoomTest");
    /** 8 bytes an element: an eighth of the 7.3 million that all have room for. */
    private static final long MOST = 8L * 7_300_000 / 8;
    private static final Random RANDOM = new Random(7);

    private RoomTest() {
    }

    public static void main(String[] args) {
        bowls(8, 40, 999);
        bowls(8, 40, 500);
        bowls(8, 17, 1);
        bowls(1, 1, 1);
        pictures();
        rows();
        CHECK.end();
    }

    private static long made() {
        return ManagementFactory.getThreadMXBean() instanceof com.sun.management.ThreadMXBean bean
                ? bean.getThreadAllocatedBytes(Thread.currentThread().getId()) : 0;
    }

    private static void fits(String what, long before) {
        long bytes = made() - before;
        CHECK.is(what + " made " + bytes + " bytes", bytes <= MOST ? 1 : 0, 1);
    }

    private static void bowls(int bands, int rounds, int wide) {
        String text = "stakes 3;rod 2 thick 1 shrinks 0 price 0;wide " + wide + ";"
                + ("band 1 before 1 behind 1 rounds " + rounds + " from 0 with 0;").repeat(bands);
        long before = made();
        NoKnot x = new NoKnot();
        CHECK.is("basket " + text, Check.basket(x, text), 3 + bands);
        long[] wishes = new long[bands];
        for (int calls = 30; calls + bands + 2 <= 512; calls += bands + 2) {
            for (int b = 0; b < bands; b++) wishes[b] = 1 + RANDOM.nextInt(9999);
            Check.row(x, 0, 3, wishes);
            CHECK.is("bowl", x.bowl(0, RANDOM.nextInt(19), -1) >= 0 ? 1 : 0, 1);
        }
        fits("bowls of " + bands, before);
    }

    private static void pictures() {
        String wish = ("0.".repeat(16) + ";").repeat(8);
        String print = ("ou".repeat(16) + ";").repeat(8);
        long before = made();
        NoKnot x = new NoKnot();
        Check.basket(x, "stakes 32;");
        for (int k = 0; k < 14; k++) {
            CHECK.is("wish", Check.wish(x, wish), 8);
            CHECK.is("print", Check.print(x, print), 8);
            // One weaver from each second STAKE, to both sides.
            CHECK.is("find", x.find(5), 32);
            CHECK.is("reads", x.reads(1, 0), 32);
        }
        fits("pictures", before);
    }

    private static void rows() {
        long before = made();
        NoKnot x = new NoKnot();
        Check.row(x, 0, 0, 1, 2, 3, 4, 5, 6, 7, 8);
        Check.row(x, 1, 0, 9, 8, 7, 6, 5, 4, 3, 2, 1);
        for (int k = 0; k < 120; k++) {
            CHECK.is("even", x.even(0, -1), 2);
            CHECK.is("reach", x.reach(1, 20, 0), 3);
            CHECK.is("nest", x.nest(1, 1), 9);
            CHECK.is("plait", x.plait(0, 9, 0), -3);
        }
        fits("rows", before);
    }
}
