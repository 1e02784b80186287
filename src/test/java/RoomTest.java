import java.lang.management.ManagementFactory;

/** All calls of a run live in one room: an object is small, and no call makes another one. */
public final class RoomTest {
    private static final Check check = new Check("RoomTest");
    private static final com.sun.management.ThreadMXBean BEAN =
            (com.sun.management.ThreadMXBean) ManagementFactory.getThreadMXBean();

    public static void main(String[] args) {
        if (!BEAN.isThreadAllocatedMemorySupported()) {
            System.out.println("RoomTest: this machine does not tell what is made");
            return;
        }
        live(new VowBlocks());
        long start = made();
        VowBlocks x = new VowBlocks();
        long object = made() - start;
        long before = made();
        live(x);
        long calls = made() - before;
        check.holds("an object takes " + object + " bytes, at most 40000 are due", object <= 40000);
        check.holds("a run of calls makes " + calls + " bytes, at most 1000 are due", calls <= 1000);
        check.finish();
    }

    private static long made() {
        return BEAN.getThreadAllocatedBytes(Thread.currentThread().getId());
    }

    /** Fewer than 512 calls, none of them refused, with every method among them. */
    private static void live(VowBlocks x) {
        for (int i = 0; i < 8; i++) {
            x.make(30 * i, 3 + i % 2);
        }
        x.join(0, 1);
        x.cut(0, 2);
        x.join(3, 2);
        x.append('5');
        x.firstError();
        x.read();
        for (int i = 0; i < 20; i++) {
            change(x, i);
            look(x, i);
        }
    }

    private static void change(VowBlocks x, int i) {
        int block = i % 8;
        x.add(block, 7 * i);
        x.put(block, 0, 255 - i);
        x.turn(block);
        x.take(block, 1);
        x.pass(3);
        x.breakVow(block);
        x.ask(block, i % 3, 255 - i);
        x.set(i % 2, 9 + i);
        x.undo();
        x.append(',');
        x.clearBuffer();
    }

    private static void look(VowBlocks x, int i) {
        int block = i % 8;
        x.block(block, i % 12);
        x.value(block, 0);
        x.count(i % 16);
        x.setting(i % 2);
        x.cost(block, i % 6);
        x.work(block, i % 6, i % 3, i);
        x.regretIn(block, i);
        x.gain(block);
        x.cheapest(block, 0);
        x.mate(block);
        x.meanBits();
        x.digest();
    }
}
