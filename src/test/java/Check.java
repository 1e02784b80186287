import java.util.ArrayList;
import java.util.List;

/** Counts what holds and what does not, and ends a test with exit code 1 if something does not. */
final class Check {
    interface Call {
        long answer();
    }

    private final String test;
    private final List<String> faults = new ArrayList<>();
    private int held = 0;

    Check(String test) {
        this.test = test;
    }

    void same(String what, long got, long due) {
        if (got == due) {
            held++;
        } else {
            faults.add(what + " answered " + got + ", due is " + due);
        }
    }

    void holds(String what, boolean condition) {
        same(what, condition ? 1 : 0, 1);
    }

    /** The call throws exactly this exception, no kind of it, and changes nothing that the object tells. */
    void refuses(String what, VowBlocks x, Class<?> exception, Call call) {
        long before = x.digest();
        try {
            faults.add(what + " answered " + call.answer() + ", due is " + exception.getSimpleName());
        } catch (RuntimeException e) {
            if (e.getClass() == exception) {
                held++;
            } else {
                faults.add(what + " threw " + e + ", due is " + exception.getSimpleName());
            }
        }
        same("the digest after " + what, x.digest(), before);
    }

    void finish() {
        for (String fault : faults) {
            System.out.println(test + ": " + fault);
        }
        System.out.println(test + ": " + held + " checks hold, " + faults.size() + " do not");
        if (!faults.isEmpty()) {
            System.exit(1);
        }
    }

    // ---- what the tests say often

    static final Class<?> INDEX = IndexOutOfBoundsException.class;
    static final Class<?> ARGUMENT = IllegalArgumentException.class;
    static final Class<?> STATE = IllegalStateException.class;

    static void type(VowBlocks x, String text) {
        for (char sign : text.toCharArray()) {
            x.append(sign);
        }
    }

    /** Makes a block of a row that is told as a text. */
    static int row(VowBlocks x, String text) {
        x.clearBuffer();
        type(x, text);
        return x.read();
    }

    static VowBlocks with(String... rows) {
        VowBlocks x = new VowBlocks();
        for (String text : rows) {
            row(x, text);
        }
        return x;
    }

    static String values(VowBlocks x, int block) {
        StringBuilder text = new StringBuilder();
        for (int i = 0; i < x.block(block, 0); i++) {
            text.append(i == 0 ? "" : ",").append(x.value(block, i));
        }
        return text.toString();
    }

    void rows(String what, VowBlocks x, String... rows) {
        same(what + ": blocks", x.count(0), rows.length);
        for (int i = 0; i < rows.length && i < x.count(0); i++) {
            holds(what + ": block " + i + " is " + values(x, i) + ", due is " + rows[i], values(x, i).equals(rows[i]));
        }
    }
}
