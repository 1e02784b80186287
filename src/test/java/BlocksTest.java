/** Promises 1 to 9: a new object, make, read, add, put, take, turn, join, cut. */
public final class BlocksTest {
    private static final Check check = new Check("BlocksTest");
    private static final String FULL = "1*24";

    public static void main(String[] args) {
        newObject();
        make();
        makeRefuses();
        read();
        readRefuses();
        add();
        put();
        take();
        turn();
        join();
        joinKeepsAndCarries();
        joinOfManyBlocks();
        joinRefuses();
        cut();
        cutRefuses();
        check.finish();
    }

    private static VowBlocks eight() {
        return Check.with("10", "11", "12", "13", "14", "15", "16", "17,18");
    }

    private static void newObject() {
        VowBlocks x = new VowBlocks();
        for (int what = 0; what <= 15; what++) {
            check.same("count(" + what + ") of a new object", x.count(what), 0);
        }
        check.same("the year", x.setting(0), 30);
        check.same("the fine", x.setting(1), 4);
        check.same("the buffer", x.clearBuffer(), 0);
        check.holds("meanBits of nothing", x.meanBits() == 0.0);
    }

    private static void make() {
        VowBlocks x = new VowBlocks();
        check.same("make", x.make(7, 3), 0);
        check.same("the next make", x.make(0, 1), 1);
        check.same("a long make", x.make(255, 24), 2);
        check.rows("made", x, "7,7,7", "0", "255" + ",255".repeat(23));
        check.same("saved by make", x.count(9), 3);
        check.same("the code of 7,7,7: common, 11 bits", x.block(0, 1), 4);
        check.same("the code of 0: plain, 8 bits", x.block(1, 1), 0);
        check.same("it chose once", x.block(0, 11), 1);
        x.pass(9);
        check.same("make later", x.make(4, 4), 3);
        check.same("vows on this day", x.block(3, 3), 9);
        x.undo();
        check.same("blocks after undo", x.count(0), 3);
    }

    private static void makeRefuses() {
        VowBlocks x = new VowBlocks();
        int[][] wrong = {{-1, 1}, {256, 1}, {0, 0}, {0, 25}, {0, -1}, {Integer.MIN_VALUE, 3}, {3, Integer.MAX_VALUE},
            {3, Integer.MIN_VALUE}};
        for (int[] w : wrong) {
            check.refuses("make(" + w[0] + ", " + w[1] + ")", x, Check.ARGUMENT, () -> x.make(w[0], w[1]));
        }
        VowBlocks full = eight();
        check.refuses("make of a ninth", full, Check.STATE, () -> full.make(0, 1));
        check.refuses("make of a wrong ninth", full, Check.ARGUMENT, () -> full.make(0, 25));
    }

    private static void read() {
        VowBlocks x = new VowBlocks();
        Check.type(x, "7*9,8,7*3,200");
        check.same("read", x.read(), 0);
        check.same("the buffer behind read", x.clearBuffer(), 0);
        check.rows("read", x, "7,7,7,7,7,7,7,7,7,8,7,7,7,200");
        check.same("its best code", x.block(0, 1), 4);
        check.same("the next read", Check.row(x, "0,255,10*1,0*21"), 1);
        check.rows("read", x, "7,7,7,7,7,7,7,7,7,8,7,7,7,200", "0,255,10" + ",0".repeat(21));
        check.same("read is saved", x.count(9), 2);
        Check.type(x, "1,2");
        x.undo();
        check.same("undo keeps the buffer", x.clearBuffer(), 3);
        check.same("undo takes the block", x.count(0), 1);
        Check.type(x, "1,2");
        x.read();
        x.undo();
        check.same("undo does not fill the buffer again", x.clearBuffer(), 0);
    }

    private static void readRefuses() {
        String[] wrong = {"", "5,", "5*", "5,*", "256", "5*25", "01", "5*24,6", "1*13,2*12", ",", "5;6", "5*2*2", "5,6,"};
        for (String text : wrong) {
            VowBlocks x = new VowBlocks();
            Check.type(x, text);
            check.refuses("read of " + text, x, Check.ARGUMENT, x::read);
        }
        VowBlocks full = eight();
        Check.type(full, "9");
        check.refuses("read of a ninth", full, Check.STATE, full::read);
        Check.type(full, "*");
        check.refuses("read of a wrong ninth", full, Check.ARGUMENT, full::read);
    }

    private static void add() {
        VowBlocks x = Check.with("5", "1*23");
        x.pass(2);
        check.same("add", x.add(0, 0), 2);
        check.same("add 255", x.add(0, 255), 3);
        check.same("add up to 24", x.add(1, 9), 24);
        check.rows("added", x, "5,0,255", "1,".repeat(23) + "9");
        check.same("add keeps the code", x.block(0, 1), 0);
        check.same("add keeps the vow", x.block(0, 3), 0);
        check.same("add makes no choice", x.block(0, 11), 1);
        check.same("add is saved", x.count(9), 6);
        x.undo();
        check.same("add is undone", x.block(1, 0), 23);
        x.add(1, 9);
        check.refuses("add to 24", x, Check.STATE, () -> x.add(1, 0));
        check.refuses("add 256 to 24", x, Check.ARGUMENT, () -> x.add(1, 256));
        check.refuses("add -1", x, Check.ARGUMENT, () -> x.add(0, -1));
        check.refuses("add to block 2", x, Check.INDEX, () -> x.add(2, 256));
        check.refuses("add to block -1", x, Check.INDEX, () -> x.add(-1, 0));
    }

    private static void put() {
        VowBlocks x = Check.with("5,6,7");
        check.same("put at the front", x.put(0, 0, 255), 5);
        check.same("put at the end", x.put(0, 2, 0), 7);
        check.same("put the same", x.put(0, 1, 6), 6);
        check.rows("put", x, "255,6,0");
        check.same("put is saved, also if it changes nothing", x.count(9), 4);
        check.same("put keeps the code", x.block(0, 1), 3);
        check.refuses("put at 3", x, Check.INDEX, () -> x.put(0, 3, 256));
        check.refuses("put at -1", x, Check.INDEX, () -> x.put(0, -1, 0));
        check.refuses("put at 24", x, Check.INDEX, () -> x.put(0, 24, 0));
        check.refuses("put in block 1", x, Check.INDEX, () -> x.put(1, 0, 0));
        check.refuses("put 256", x, Check.ARGUMENT, () -> x.put(0, 0, 256));
        check.refuses("put -1", x, Check.ARGUMENT, () -> x.put(0, 0, -1));
        x.undo();
        x.undo();
        check.rows("put undone", x, "255,6,7");
    }

    private static void take() {
        VowBlocks x = Check.with("5,6,7,8");
        check.same("take from within", x.take(0, 1), 6);
        check.rows("taken", x, "5,7,8");
        check.same("take the last", x.take(0, 2), 8);
        check.same("take the first", x.take(0, 0), 5);
        check.rows("taken", x, "7");
        check.same("take is saved", x.count(9), 4);
        check.same("take keeps the code", x.block(0, 1), 3);
        check.refuses("take the only one", x, Check.STATE, () -> x.take(0, 0));
        check.refuses("take at 1 of 1", x, Check.INDEX, () -> x.take(0, 1));
        check.refuses("take at -1", x, Check.INDEX, () -> x.take(0, -1));
        check.refuses("take from block 1", x, Check.INDEX, () -> x.take(1, 0));
        check.refuses("take from block -1", x, Check.INDEX, () -> x.take(-1, 0));
        x.undo();
        check.rows("take undone", x, "5,7");
        VowBlocks full = Check.with("9,8*22,7");
        check.same("take the first of 24", full.take(0, 0), 9);
        check.same("take the last of 23", full.take(0, 22), 7);
        check.rows("taken", full, "8" + ",8".repeat(21));
        check.same("the sum of those that are left", full.ask(0, 1, 0), 22 * 8);
    }

    private static void turn() {
        VowBlocks x = Check.with("1,2,3,4", "1,2,9", "6");
        check.same("turn of four", x.turn(0), 4);
        check.same("turn of three", x.turn(1), 9);
        check.same("turn of one", x.turn(2), 6);
        check.rows("turned", x, "4,3,2,1", "9,2,1", "6");
        check.same("turn is saved", x.count(9), 6);
        check.same("turn keeps the code", x.block(0, 1), 3);
        check.refuses("turn of block 3", x, Check.INDEX, () -> x.turn(3));
        check.refuses("turn of block -1", x, Check.INDEX, () -> x.turn(-1));
        x.undo();
        x.undo();
        check.rows("turn undone", x, "4,3,2,1", "1,2,9", "6");
    }

    private static void join() {
        VowBlocks x = Check.with("1", "2,3", "4*3", "5");
        check.same("join with one behind", x.join(0, 2), 0);
        check.rows("joined", x, "1,4,4,4", "2,3", "5");
        check.same("join with one ahead", x.join(2, 0), 1);
        check.rows("joined", x, "2,3", "5,1,4,4,4");
        check.same("join is saved", x.count(9), 6);
        x.undo();
        check.rows("join undone", x, "1,4,4,4", "2,3", "5");
        check.same("make behind a join", x.make(9, 1), 3);
        check.same("counted anew", x.block(3, 11), 1);
        VowBlocks most = Check.with("1*12", "2*12");
        check.same("join up to 24", most.join(1, 0), 0);
        check.same("its values", most.block(0, 0), 24);
    }

    private static void joinKeepsAndCarries() {
        VowBlocks x = Check.with("3*6", "200,3");
        x.put(0, 2, 90);
        x.add(1, 3);
        x.add(1, 3);
        x.set(0, 100);
        x.pass(3);
        x.ask(0, 1, 0);
        x.ask(1, 0, 3);
        x.ask(1, 1, 3);
        x.breakVow(1);
        x.pass(1);
        int[] one = properties(x, 0);
        int[] other = properties(x, 1);
        check.holds("the other has regrets, work and fines", other[4] > 0 && other[5] > 0 && other[7] > 0);
        x.join(0, 1);
        check.same("its code", x.block(0, 1), one[1]);
        check.same("its vow", x.block(0, 3), one[3]);
        check.same("regrets come along", x.block(0, 4), one[4] + other[4]);
        check.same("work comes along", x.block(0, 5), one[5] + other[5]);
        check.same("questions do not", x.block(0, 6), 1);
        check.same("fines come along", x.block(0, 7), one[7] + other[7]);
        check.same("choices do not", x.block(0, 11), 1);
    }

    private static void joinOfManyBlocks() {
        VowBlocks x = eight();
        check.same("join with the last of eight", x.join(0, 7), 0);
        check.same("join with the first", x.join(3, 0), 2);
        check.rows("joined", x, "11", "12", "13,10,17,18", "14", "15", "16");
        x.put(5, 0, 90);
        for (int i = 0; i < 5; i++) {
            x.add(5, 3);
        }
        x.pass(2);
        x.ask(5, 1, 0);
        x.breakVow(5);
        check.holds("the last block has regrets", x.block(5, 4) > 0);
        x.join(4, 5);
        check.same("a block behind it", x.make(6, 2), 5);
        for (int what = 4; what <= 7; what++) {
            check.same("nothing of the one that is gone, " + what, x.block(5, what), 0);
        }
        check.same("its own choice alone", x.block(5, 11), 1);
    }

    private static int[] properties(VowBlocks x, int block) {
        int[] all = new int[12];
        for (int what = 0; what < 12; what++) {
            all[what] = x.block(block, what);
        }
        return all;
    }

    private static void joinRefuses() {
        VowBlocks x = Check.with("1*12", "2*13", "3");
        check.refuses("join of 25", x, Check.STATE, () -> x.join(0, 1));
        check.refuses("join with itself", x, Check.ARGUMENT, () -> x.join(2, 2));
        check.refuses("join of 26 with itself", x, Check.ARGUMENT, () -> x.join(1, 1));
        check.refuses("join with block 3", x, Check.INDEX, () -> x.join(0, 3));
        check.refuses("join of block 3", x, Check.INDEX, () -> x.join(3, 0));
        check.refuses("join of no block with itself", x, Check.INDEX, () -> x.join(3, 3));
        check.refuses("join with block -1", x, Check.INDEX, () -> x.join(0, -1));
    }

    private static void cut() {
        VowBlocks x = Check.with("1,2,3*4", "9");
        x.ask(0, 1, 0);
        x.add(0, 77);
        x.pass(5);
        int code = x.block(0, 1);
        int regrets = x.block(0, 4);
        check.holds("there are regrets", regrets > 0);
        check.same("cut", x.cut(0, 2), 2);
        check.rows("cut", x, "1,2", "9", "3,3,3,3,77");
        check.same("the one keeps its code", x.block(0, 1), code);
        check.same("the one keeps its vow", x.block(0, 3), 0);
        check.same("the one keeps its regrets", x.block(0, 4), regrets);
        check.same("the new one vows on this day", x.block(2, 3), 5);
        check.same("the new one chooses the best code", x.block(2, 1), x.block(2, 8));
        for (int what = 4; what <= 7; what++) {
            check.same("the new one starts with " + what, x.block(2, what), 0);
        }
        check.same("the new one chose once", x.block(2, 11), 1);
        check.same("cut at the last place", x.cut(2, 4), 3);
        check.rows("cut", x, "1,2", "9", "3,3,3,3", "77");
        x.undo();
        check.rows("cut undone", x, "1,2", "9", "3,3,3,3,77");
    }

    private static void cutRefuses() {
        VowBlocks x = eight();
        check.refuses("cut with 8 blocks", x, Check.STATE, () -> x.cut(7, 1));
        check.refuses("cut at 0", x, Check.INDEX, () -> x.cut(7, 0));
        check.refuses("cut at -1", x, Check.INDEX, () -> x.cut(7, -1));
        check.refuses("cut at 2 of 2", x, Check.INDEX, () -> x.cut(7, 2));
        check.refuses("cut of block 8", x, Check.INDEX, () -> x.cut(8, 1));
        check.refuses("cut of block -1", x, Check.INDEX, () -> x.cut(-1, 1));
        VowBlocks y = Check.with(FULL);
        check.refuses("cut at 24", y, Check.INDEX, () -> y.cut(0, 24));
        check.same("cut at 23", y.cut(0, 23), 1);
    }
}
