import java.util.ArrayList;
import java.util.List;

/** Counts what holds and what does not, and ends a test with exit code 1 if something does not. */
final class Check {
    interface Call {
        long answer();
    }

    interface OfNumber {
        long answer(int number);
    }

    interface OfBlock {
        long answer(VowBlocks x, int block);
    }

    interface OfPlace {
        long answer(VowBlocks x, int block, int place);
    }

    private final String test;
    private final List<String> faults = new ArrayList<>();
    private String head = "";
    private int held = 0;

    Check(String test) {
        this.test = test;
    }

    /** What is checked from here on stands under this head. */
    void under(String newHead) {
        head = newHead + ": ";
    }

    int faults() {
        return faults.size();
    }

    void fault(String text) {
        faults.add(head + text);
    }

    void same(String what, long got, long due) {
        if (got == due) {
            held++;
        } else {
            fault(what + " answered " + got + ", due is " + due);
        }
    }

    void holds(String what, boolean condition) {
        same(what, condition ? 1 : 0, 1);
    }

    /** The call throws exactly this exception, no kind of it, and changes nothing that the object tells. */
    void refuses(String what, VowBlocks x, Class<?> exception, Call call) {
        long before = x.digest();
        try {
            fault(what + " answered " + call.answer() + ", due is " + exception.getSimpleName());
        } catch (RuntimeException e) {
            if (e.getClass() == exception) {
                held++;
            } else {
                fault(what + " threw " + e + ", due is " + exception.getSimpleName());
            }
        }
        same("the digest after " + what, x.digest(), before);
    }

    /** Numbers just outside of the range are refused, and numbers far outside, which must not wrap around into it. */
    void outside(String what, VowBlocks x, Class<?> exception, int least, int greatest, OfNumber call) {
        int[] wrong = {least - 1, greatest + 1, least - 65536, least + 65536, Integer.MIN_VALUE, Integer.MAX_VALUE};
        for (int number : wrong) {
            refuses(what + " of " + number, x, exception, () -> call.answer(number));
        }
    }

    /** Numbers outside of the range are refused, its least and its greatest one are answered. */
    void range(String what, VowBlocks x, Class<?> exception, int least, int greatest, OfNumber call) {
        outside(what, x, exception, least, greatest, call);
        call.answer(least);
        call.answer(greatest);
    }

    /** The call is refused for blocks that there are not, not yet or no more, and answered for the first and the last one. */
    void noSuchBlock(String what, OfBlock call) {
        VowBlocks none = new VowBlocks();
        refuses(what + ", no blocks", none, INDEX, () -> call.answer(none, 0));
        refuses(what + ", no blocks", none, INDEX, () -> call.answer(none, -1));
        VowBlocks gone = with("1,2", "3,4", "5,6", "7,8");
        gone.undo();
        gone.join(0, 1);
        refuses(what + ", a joined one", gone, INDEX, () -> call.answer(gone, 2));
        refuses(what + ", an undone one", gone, INDEX, () -> call.answer(gone, 3));
        VowBlocks full = with("1,2", "3,4", "5,6", "7,8", "9,10", "11,12", "13,14", "15,16");
        outside(what + ", eight blocks", full, INDEX, 0, 7, block -> call.answer(full, block));
        VowBlocks six = with("1,2", "3,4", "5,6", "7,8", "9,10", "11,12");
        outside(what + ", six blocks", six, INDEX, 0, 5, block -> call.answer(six, block));
        call.answer(six, 5);
        call.answer(six, 0);
    }

    /** The same for places of values. */
    void noSuchPlace(String what, OfPlace call) {
        noSuchBlock(what, (x, block) -> call.answer(x, block, 1));
        VowBlocks taken = with("9,8,7,6", "5*24");
        taken.take(0, 3);
        outside(what + ", a place of three", taken, INDEX, 0, 2, place -> call.answer(taken, 0, place));
        outside(what + ", a place of 24", taken, INDEX, 0, 23, place -> call.answer(taken, 1, place));
        call.answer(taken, 0, 2);
        call.answer(taken, 1, 23);
    }

    void finish() {
        for (String fault : faults) {
            System.out.println(test + ": " + fault);
        }
        System.out.println(test + ": " + held + " checks hold, " + faults.size() + " do not");
        if (!faults.isEmpty()) {
            System.exit(1);
        }
    }

    // ---- what the tests say often

    static final Class<?> INDEX = IndexOutOfBoundsException.class;
    static final Class<?> ARGUMENT = IllegalArgumentException.class;
    static final Class<?> STATE = IllegalStateException.class;

    static void type(VowBlocks x, String text) {
        for (char sign : text.toCharArray()) {
            x.append(sign);
        }
    }

    /** Makes a block of a row that is told as a text. */
    static int row(VowBlocks x, String text) {
        x.clearBuffer();
        type(x, text);
        return x.read();
    }

    static VowBlocks with(String... rows) {
        VowBlocks x = new VowBlocks();
        for (String text : rows) {
            row(x, text);
        }
        return x;
    }

    static String values(VowBlocks x, int block) {
        StringBuilder text = new StringBuilder();
        for (int i = 0; i < x.block(block, 0); i++) {
            text.append(i == 0 ? "" : ",").append(x.value(block, i));
        }
        return text.toString();
    }

    void rows(String what, VowBlocks x, String... rows) {
        same(what + ": blocks", x.count(0), rows.length);
        for (int i = 0; i < rows.length && i < x.count(0); i++) {
            holds(what + ": block " + i + " is " + values(x, i) + ", due is " + rows[i], values(x, i).equals(rows[i]));
        }
    }
}
