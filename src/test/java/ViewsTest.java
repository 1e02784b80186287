/** Promises 18 to 21: block, value, count, setting. */
public final class ViewsTest {
    private static final Check check = new Check("ViewsTest");

    public static void main(String[] args) {
        block();
        blockRefuses();
        value();
        count();
        countRefuses();
        setting();
        check.finish();
    }

    private static VowBlocks lived() {
        VowBlocks x = Check.with("7*9,8,7*3,200", "10,11,12,13,14,15,16", "1,255,1,255,0*4");
        x.ask(0, 0, 7);
        x.ask(0, 2, 8);
        x.ask(1, 1, 0);
        x.add(1, 255);
        x.put(1, 0, 0);
        x.pass(10);
        return x;
    }

    private static void block() {
        VowBlocks x = lived();
        int[][] due = {
            {14, 4, 38, 0, 0, 15, 2, 0, 4, 38, 0, 1},
            {8, 3, 75, 0, 110, 7, 1, 0, 0, 64, 1, 1},
            {8, 2, 45, 0, 0, 0, 0, 0, 2, 45, 2, 1},
        };
        for (int i = 0; i < 3; i++) {
            for (int what = 0; what < 12; what++) {
                check.same("block(" + i + ", " + what + ")", x.block(i, what), due[i][what]);
            }
        }
        x.breakVow(1);
        x.make(4, 1);
        x.make(4, 2);
        x.make(4, 1);
        check.same("its vow", x.block(1, 3), 10);
        check.same("its fines", x.block(1, 7), 80);
        check.same("its choices", x.block(1, 11), 2);
        check.same("no other like it ahead", x.block(4, 10), 4);
        check.same("a row like an earlier one", x.block(5, 10), 3);
        x.cut(4, 1);
        check.same("a shorter row", x.block(4, 10), 3);
        check.same("a row of three alike", x.block(6, 10), 3);
    }

    private static void blockRefuses() {
        VowBlocks x = Check.with("5");
        check.refuses("block(0, 12)", x, Check.ARGUMENT, () -> x.block(0, 12));
        check.refuses("block(0, -1)", x, Check.ARGUMENT, () -> x.block(0, -1));
        check.refuses("block(1, 12)", x, Check.INDEX, () -> x.block(1, 12));
        check.refuses("block(-1, 0)", x, Check.INDEX, () -> x.block(-1, 0));
        check.refuses("block(8, 0)", x, Check.INDEX, () -> x.block(8, 0));
    }

    private static void value() {
        VowBlocks x = Check.with("5,0,255");
        check.same("value 0", x.value(0, 0), 5);
        check.same("value 1", x.value(0, 1), 0);
        check.same("value 2", x.value(0, 2), 255);
        check.refuses("value(0, 3)", x, Check.INDEX, () -> x.value(0, 3));
        check.refuses("value(0, -1)", x, Check.INDEX, () -> x.value(0, -1));
        check.refuses("value(0, 24)", x, Check.INDEX, () -> x.value(0, 24));
        check.refuses("value(1, 0)", x, Check.INDEX, () -> x.value(1, 0));
        check.refuses("value(-1, 0)", x, Check.INDEX, () -> x.value(-1, 0));
    }

    private static void count() {
        VowBlocks x = lived();
        x.breakVow(1);
        x.make(6, 1);
        x.make(6, 1);
        x.make(6, 4);
        int[] due = {6, 10, 36, 38 + 64 + 45 + 8 + 8 + 12, 38 + 64 + 45 + 8 + 8 + 12, 110, 22, 80, 5, 6, 3, 0, 1, 1, 1, 0};
        for (int what = 0; what < 16; what++) {
            check.same("count(" + what + ")", x.count(what), due[what]);
        }
        x.put(5, 1, 200);
        check.same("bits by the codes: steps, -194 in 9 bits", x.count(3), due[3] - 12 + 12 + 27);
        check.same("bits by the best codes: common", x.count(4), due[4] - 12 + 20);
        x.put(4, 0, 7);
        check.same("different rows", x.count(8), 6);
        x.undo();
        x.undo();
        x.undo();
        check.same("saved states", x.count(9), 3);
        VowBlocks y = Check.with("5*9,1*9", "9,14,12,8,15,10,13,11,8,9");
        check.same("blocks of runs", y.count(11), 1);
        check.same("blocks of frames", y.count(15), 1);
    }

    private static void countRefuses() {
        VowBlocks x = new VowBlocks();
        check.refuses("count(16)", x, Check.ARGUMENT, () -> x.count(16));
        check.refuses("count(-1)", x, Check.ARGUMENT, () -> x.count(-1));
    }

    private static void setting() {
        VowBlocks x = new VowBlocks();
        check.same("setting 0", x.setting(0), 30);
        check.same("setting 1", x.setting(1), 4);
        x.set(0, 12);
        x.set(1, 13);
        check.same("setting 0", x.setting(0), 12);
        check.same("setting 1", x.setting(1), 13);
        check.refuses("setting(2)", x, Check.INDEX, () -> x.setting(2));
        check.refuses("setting(-1)", x, Check.INDEX, () -> x.setting(-1));
    }
}
