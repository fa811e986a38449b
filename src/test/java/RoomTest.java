import com.sun.management.ThreadMXBean;
import java.lang.management.ManagementFactory;

/** All calls of a run live in one room: an object makes its rows when it is made, and its calls make none. */
public final class RoomTest {
    private static final ThreadMXBean THREADS = (ThreadMXBean) ManagementFactory.getThreadMXBean();
    /** LANDS with many STATES, with many WEEKS that may be next, and with too many STATES. */
    private static final String[] LANDS = {"1!;1a;1b;1b;1a;1abcd;1bcde", "0!;0!;0!;0!;0!;0abcde;0abcde;0abcde;0abcde;0abcde",
        Feasts.CROWD, Feasts.CHAIN};
    private static final int[] GRACE = {3, 1, 3, 3};
    private static final int[] SEATS = {4, 10, 10, 2};
    /** What the machine itself may need on the way, the first time that it comes there. */
    private static final long SLACK = 4096;
    private static final long MOST_BYTES_OF_AN_OBJECT = 200_000;

    private static long wrong;
    private static long answers;

    private RoomTest() {
    }

    public static void main(String[] args) {
        for (int round = 0; round < 2; round++) {
            for (int k = 0; k < LANDS.length; k++) {
                room(k, round > 0);
            }
        }
        System.out.println("RoomTest: " + (wrong == 0 ? "no call makes anything" : wrong + " wrong"));
        if (wrong > 0) {
            System.exit(1);
        }
    }

    private static void mustBeAtMost(String what, long bytes, long most) {
        if (bytes > most) {
            wrong++;
            System.out.println(what + ": " + bytes + " bytes, at most " + most + " are due");
        }
    }

    /** The first round loads what the machine loads once. */
    private static void room(int k, boolean isCounted) {
        int[] signs = signsOf("p*2-i/(k+1)+g*s<w+l-n");
        long atFirst = THREADS.getCurrentThreadAllocatedBytes();
        EachBringsAnother x = new EachBringsAnother();
        long made = THREADS.getCurrentThreadAllocatedBytes();
        x = Feasts.feast(LANDS[k], GRACE[k], SEATS[k]);
        long before = THREADS.getCurrentThreadAllocatedBytes();
        for (int v : signs) {
            x.sign(v);
        }
        x.end(21);
        answers += x.rule();
        for (int round = 0; round < 5; round++) {
            askAll(x, round);
        }
        long after = THREADS.getCurrentThreadAllocatedBytes();
        if (isCounted) {
            mustBeAtMost("an object", made - atFirst, MOST_BYTES_OF_AN_OBJECT);
            mustBeAtMost("calls with " + LANDS[k], after - before, SLACK);
        }
    }

    private static int[] signsOf(String text) {
        int[] signs = new int[(text.length() + 3) / 4];
        for (int p = 0; p < text.length(); p++) {
            signs[p / 4] |= text.charAt(p) << 24 - p % 4 * 8;
        }
        return signs;
    }

    private static void askAll(EachBringsAnother x, int round) {
        x.keep(round % 2);
        answers += x.goes(1) + x.undo() + x.can() + x.picks(0) + x.pairs() + x.bars();
        x.hide(3, round % 2 == 0);
        answers += x.states() + x.most(2) + x.reach(2) + x.fewest(2) + x.crowd() + x.both(0, 1, 2) + x.last() + x.begin();
        x.hide(3, round % 2 == 1);
        for (int n = 0; n < 4; n++) {
            answers += x.cheap(n) + x.stays(n) + x.soonest(n) + x.worth(n);
            answers += x.far(n) + x.line(n) + x.led(n) + x.was(n) + x.of(n, 6);
        }
        answers += x.needed() + x.never() + x.bound() + x.common(0, 1) + x.father();
        x.meet(0, 3, round % 2 == 0);
        answers += x.sheet(round % 3, 10, round, 1) + x.week() + x.land() + x.law(0, round % 3 + 1) + x.last();
        x.again(round % 2);
        answers += x.count(5) + x.baby(1);
    }
}
