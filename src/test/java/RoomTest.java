import java.lang.management.ManagementFactory;

/** What calls take of the room: every call, in a full house with long texts, makes no object and no array. */
public final class RoomTest {
    private static final com.sun.management.ThreadMXBean THREADS = (com.sun.management.ThreadMXBean) ManagementFactory.getThreadMXBean();
    private static final String LONG = "burn ((((((((w-f+x*2))))))))|!!!!!!!!w&f<300|x=1+2+3+4+5+6+7+8+9+1+2+3+4+5+6+7+8+9+1+2+3+4+5+6+7";
    // What the measuring itself may take.
    private static final long SPARE = 256;

    public static void main(String[] args) {
        LastLight x = new LastLight();
        int[] tape = new int[24];
        for (int i = 0; i < tape.length; i++) {
            tape[i] = Due.four(LONG, 4 * i);
        }
        // The first time, the machine itself makes what it needs to know the class.
        callAll(x, tape);
        long before = THREADS.getCurrentThreadAllocatedBytes();
        for (int i = 0; i < 5; i++) {
            callAll(x, tape);
        }
        long taken = THREADS.getCurrentThreadAllocatedBytes() - before;
        if (taken > SPARE) {
            System.out.println("calls took " + taken + " bytes");
        }
        Due.due("calls take room", taken > SPARE ? 1 : 0, 0);
        Due.due("texts came", x.count(4) > 1 ? 1 : 0, 1);
        Due.due("lodgers came", x.count(0), 10);
        Due.end();
    }

    private static int callAll(LastLight x, int[] tape) {
        return lodgers(x) ^ texts(x, tape) ^ thought(x) ^ sheets(x) ^ images(x);
    }

    private static int lodgers(LastLight x) {
        return x.lodger(3, 1, 599) ^ x.deal(10) ^ x.seed(77) ^ x.rule(0, 3) ^ x.rule(1, 99) ^ x.set(0, 3, 60) ^ x.turns(1, 4)
            ^ x.as(1, 2) ^ x.told(0, 9) ^ x.burns(9, 59) ^ x.nights(100) ^ x.house(1) ^ x.house(5) ^ x.longest();
    }

    private static int texts(LastLight x, int[] tape) {
        int mix = 0;
        for (int i = 0; i + 2 < tape.length; i += 3) {
            mix ^= x.feed(tape[i], tape[i + 1], tape[i + 2]);
        }
        return mix ^ x.trim(96) ^ x.text() ^ x.text() ^ x.textTold(0, 1) ^ x.why(0) ^ x.fee() ^ x.fine(0);
    }

    private static int thought(LastLight x) {
        return x.behind(100, 12) ^ x.bestLaw(60, 1) ^ x.bedtime(0, 40, 1) ^ x.wrong(0, 40, 1) ^ x.moved(0, 60, 1) ^ x.dark();
    }

    private static int sheets(LastLight x) {
        return x.sheet(0, 1, 24) ^ x.mark(0, 23, LastLight.NONE) ^ x.mark(0, 0, 300) ^ x.wished(0, 0, 1) ^ x.pour(0) ^ x.reads(0)
            ^ x.copy(0, 0, 0, 1, 23) ^ x.lay(0, 1, 9) ^ x.ask(0, 0) ^ x.lay(0, 2, 0) ^ x.item(0, 0) ^ x.lay(0, 3, 7) ^ x.rest(0, 4);
    }

    private static int images(LastLight x) {
        int mix = x.keep();
        for (int i = 0; i < 61; i++) {
            mix ^= x.tell(i);
        }
        return mix ^ x.check(30) ^ x.back() ^ x.count(7);
    }
}
