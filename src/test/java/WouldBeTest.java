/** Promises 22 to 29: cost, work, regretIn, gain, cheapest, mate, meanBits, digest. */
public final class WouldBeTest {
    private static final Check check = new Check("WouldBeTest");

    public static void main(String[] args) {
        cost();
        costAtTheEdges();
        costRefuses();
        work();
        workOfFrames();
        workRefuses();
        regretIn();
        gain();
        cheapest();
        mate();
        meanBits();
        digest();
        nothingIsChanged();
        check.finish();
    }

    private static void costs(String row, int... due) {
        VowBlocks x = Check.with(row);
        int best = 0;
        for (int code = 0; code < 6; code++) {
            check.same("cost of " + row + " by " + code, x.cost(0, code), due[code]);
            best = due[code] < due[best] ? code : best;
        }
        check.same("the best code of " + row, x.block(0, 8), best);
        check.same("the bits by it", x.block(0, 9), due[best]);
    }

    private static void cost() {
        costs("0", 8, 13, 13, 12, 9, 12);
        costs("7*9,8,7*3,200", 112, 52, 57, 129, 38, 124);
        costs("10,11,12,13,14,15,16", 56, 91, 82, 24, 63, 33);
        costs("1,255,1,255,0*4", 64, 65, 45, 75, 48, 76);
        costs("5*24", 192, 13, 13, 12, 32, 12);
        costs("5*9,1*9", 144, 26, 39, 63, 98, 66);
    }

    private static void costAtTheEdges() {
        // steps: the least width for a step, alone and beside the other sign
        int[][] steps = {{5, 5, 0}, {5, 4, 1}, {5, 6, 2}, {5, 3, 2}, {5, 2, 3}, {5, 7, 3}, {5, 8, 3}, {5, 9, 4}, {5, 1, 3}, {5, 0, 4},
            {0, 127, 8}, {0, 128, 9}, {128, 0, 8}, {129, 0, 9}, {0, 255, 9}, {255, 0, 9}, {0, 63, 7}, {0, 64, 8}, {64, 0, 7}, {65, 0, 8}};
        for (int[] s : steps) {
            VowBlocks x = Check.with(s[0] + "," + s[1]);
            check.same("steps of " + s[0] + "," + s[1], x.cost(0, 3), 12 + s[2]);
        }
        // frame: the least width for a span
        int[][] frames = {{5, 5, 0}, {5, 6, 1}, {5, 7, 2}, {5, 8, 2}, {5, 9, 3}, {0, 127, 7}, {0, 128, 8}, {0, 255, 8}, {255, 192, 6}, {255, 191, 7}};
        for (int[] f : frames) {
            VowBlocks x = Check.with(f[0] + "," + f[1]);
            check.same("frame of " + f[0] + "," + f[1], x.cost(0, 5), 12 + 2 * f[2]);
        }
        // table: the least width for so many values
        StringBuilder row = new StringBuilder("9");
        int[] widths = {0, 1, 2, 2, 3, 3, 3, 3, 4, 4, 4, 4, 4, 4, 4, 4, 5, 5, 5, 5, 5, 5, 5, 5};
        VowBlocks x = Check.with("9");
        for (int d = 1; d <= 24; d++) {
            check.same("table of " + d, x.cost(0, 2), 5 + 8 * d + d * widths[d - 1]);
            if (d < 24) {
                x.add(0, 9 + d);
            }
        }
        // common: of several the least one, and no place matters
        VowBlocks two = Check.with("9,3,9,3,4");
        check.same("common with two of them", two.cost(0, 4), 8 + 5 + 24);
        check.same("the common one is 3", two.work(0, 4, 0, 3), 1);
        check.same("the common one is not 9", two.work(0, 4, 0, 9), 4);
        VowBlocks first = Check.with("3,9");
        check.same("the common one is 3, the first", first.work(0, 4, 0, 3), 1);
        check.same("the common one is not 9, the last", first.work(0, 4, 0, 9), 2);
    }

    private static void costRefuses() {
        VowBlocks x = Check.with("5");
        check.refuses("cost(0, 6)", x, Check.ARGUMENT, () -> x.cost(0, 6));
        check.refuses("cost(0, -1)", x, Check.ARGUMENT, () -> x.cost(0, -1));
        check.refuses("cost(1, 6)", x, Check.INDEX, () -> x.cost(1, 6));
        check.refuses("cost(-1, 0)", x, Check.INDEX, () -> x.cost(-1, 0));
    }

    private static void works(VowBlocks x, int code, int question, int v, int due) {
        check.same("work(0, " + code + ", " + question + ", " + v + ")", x.work(0, code, question, v), due);
    }

    private static void work() {
        VowBlocks x = Check.with("7*9,8,7*3,200");
        int[] wholeRow = {14, 4, 17, 14, 3, 14};
        for (int code = 0; code < 6; code++) {
            works(x, code, 1, 7, wholeRow[code]);
            works(x, code, 1, 0, wholeRow[code]);
            works(x, code, 1, 255, wholeRow[code]);
        }
        int[] seven = {14, 4, 17, 14, 1, 14};
        int[] eight = {14, 4, 17, 14, 3, 14};
        int[] nine = {14, 4, 3, 14, 3, 14};
        int[] nought = {14, 4, 3, 14, 3, 1};
        int[] firstSeven = {1, 1, 4, 1, 14, 1};
        int[] firstEight = {10, 2, 13, 10, 14, 10};
        int[] firstLast = {14, 4, 17, 14, 14, 14};
        int[] firstNone = {14, 4, 3, 14, 14, 14};
        int[] firstNought = {14, 4, 3, 14, 14, 1};
        for (int code = 0; code < 6; code++) {
            works(x, code, 0, 7, seven[code]);
            works(x, code, 0, 8, eight[code]);
            works(x, code, 0, 9, nine[code]);
            works(x, code, 0, 0, nought[code]);
            works(x, code, 2, 7, firstSeven[code]);
            works(x, code, 2, 8, firstEight[code]);
            works(x, code, 2, 200, firstLast[code]);
            works(x, code, 2, 9, firstNone[code]);
            works(x, code, 2, 0, firstNought[code]);
        }
    }

    private static void workOfFrames() {
        VowBlocks x = Check.with("10,12,14");
        works(x, 5, 0, 9, 1);
        works(x, 5, 2, 9, 1);
        works(x, 5, 0, 10, 3);
        works(x, 5, 2, 10, 1);
        works(x, 5, 2, 12, 2);
        works(x, 5, 0, 15, 3);
        works(x, 5, 2, 17, 3);
        works(x, 5, 0, 17, 3);
        works(x, 5, 0, 18, 1);
        works(x, 5, 2, 18, 1);
        VowBlocks same = Check.with("10*5");
        works(same, 5, 0, 10, 5);
        works(same, 5, 0, 11, 1);
        works(same, 5, 2, 11, 1);
        works(same, 5, 1, 11, 5);
    }

    private static void workRefuses() {
        VowBlocks x = Check.with("5");
        check.refuses("code 6", x, Check.ARGUMENT, () -> x.work(0, 6, 0, 0));
        check.refuses("code -1", x, Check.ARGUMENT, () -> x.work(0, -1, 0, 0));
        check.refuses("question 3", x, Check.ARGUMENT, () -> x.work(0, 0, 3, 0));
        check.refuses("question -1", x, Check.ARGUMENT, () -> x.work(0, 0, -1, 0));
        check.refuses("v 256", x, Check.ARGUMENT, () -> x.work(0, 0, 1, 256));
        check.refuses("v -1", x, Check.ARGUMENT, () -> x.work(0, 0, 0, -1));
        check.refuses("block 1", x, Check.INDEX, () -> x.work(1, 6, 3, 256));
        check.refuses("block -1", x, Check.INDEX, () -> x.work(-1, 0, 0, 0));
    }

    /** Regrets 193 bits a day, by a vow of the day 0. */
    private static VowBlocks regretful() {
        VowBlocks x = new VowBlocks();
        x.make(255, 24);
        x.put(0, 23, 0);
        return x;
    }

    private static void regretIn() {
        VowBlocks x = regretful();
        check.same("in no day", x.regretIn(0, 0), 0);
        check.same("in a day", x.regretIn(0, 1), 193);
        check.same("in 29", x.regretIn(0, 29), 29 * 193);
        check.same("in 30", x.regretIn(0, 30), 30 * 193);
        check.same("in 31", x.regretIn(0, 31), 30 * 193);
        check.same("in 200", x.regretIn(0, 200), 30 * 193);
        x.pass(10);
        check.same("in 200, ten days later", x.regretIn(0, 200), 20 * 193);
        x.set(0, 10);
        check.same("in no day of a vow at its end", x.regretIn(0, 0), 0);
        check.same("in 5 of a vow at its end", x.regretIn(0, 5), 193);
        x.set(0, 3);
        check.same("in 5 of a vow behind its end", x.regretIn(0, 5), 193);
        x.set(0, 400);
        check.same("in 200 of 390", x.regretIn(0, 200), 200 * 193);
        x.breakVow(0);
        check.same("by the best code", x.regretIn(0, 200), 0);
        check.refuses("in 201", x, Check.ARGUMENT, () -> x.regretIn(0, 201));
        check.refuses("in -1", x, Check.ARGUMENT, () -> x.regretIn(0, -1));
        check.refuses("of block 1", x, Check.INDEX, () -> x.regretIn(1, 201));
        check.refuses("of block -1", x, Check.INDEX, () -> x.regretIn(-1, 1));
    }

    private static void gain() {
        VowBlocks x = regretful();
        check.same("gain", x.gain(0), 30 * 193 - 120);
        x.set(1, 0);
        check.same("gain without a fine", x.gain(0), 30 * 193);
        x.set(1, 100);
        x.pass(10);
        check.same("gain of 20 days", x.gain(0), 20 * 193 - 2000);
        x.set(0, 400);
        check.same("200 days at most, the fine for all", x.gain(0), 200 * 193 - 39000);
        x.set(0, 210);
        check.same("just 200 days", x.gain(0), 200 * 193 - 20000);
        x.set(0, 10);
        check.same("no day is left", x.gain(0), 0);
        x.set(0, 1);
        check.same("less than none", x.gain(0), 0);
        x.set(0, 11);
        check.same("one day is left", x.gain(0), 93);
        x.breakVow(0);
        check.same("only the fine", x.gain(0), -1100);
        check.refuses("gain of block 1", x, Check.INDEX, () -> x.gain(1));
        check.refuses("gain of block -1", x, Check.INDEX, () -> x.gain(-1));
    }

    private static void cheapest() {
        VowBlocks plain = Check.with("9");
        check.same("by plain all are alike", plain.cheapest(0, 0), 0);
        VowBlocks runs = Check.with("5*9,1*9");
        check.same("by runs, within a run", runs.cheapest(0, 3), 5);
        check.same("by runs, at a border", runs.cheapest(0, 9), 1);
        runs.put(0, 8, 77);
        check.same("by runs, between two", runs.cheapest(0, 8), 1);
        VowBlocks high = Check.with("255*12,0*12");
        check.same("by runs, the highest", high.cheapest(0, 0), 255);
        VowBlocks table = Check.with("1,255,1,255,0*4");
        check.same("by table", table.cheapest(0, 0), 0);
        table.put(0, 0, 9);
        check.same("by table, a value more", table.cheapest(0, 0), 0);
        VowBlocks steps = Check.with("10,11,12,13,14,15,16");
        check.same("by steps", steps.cheapest(0, 3), 13);
        check.same("by steps, at the end: two less fits as well", steps.cheapest(0, 6), 13);
        check.same("by steps, ahead", steps.cheapest(0, 0), 10);
        VowBlocks common = Check.with("7*9,8,7*3,200");
        check.same("by common", common.cheapest(0, 9), 7);
        check.same("by common, the common one", common.cheapest(0, 0), 7);
        VowBlocks frame = Check.with("9,14,12,8,15,10,13,11,8,9");
        check.same("by frame", frame.cheapest(0, 0), 8);
        frame.put(0, 0, 255);
        check.same("by frame, the lowest that fits", frame.cheapest(0, 0), 8);
        check.refuses("cheapest(0, 10)", frame, Check.INDEX, () -> frame.cheapest(0, 10));
        check.refuses("cheapest(0, -1)", frame, Check.INDEX, () -> frame.cheapest(0, -1));
        check.refuses("cheapest(1, 0)", frame, Check.INDEX, () -> frame.cheapest(1, 0));
        check.refuses("cheapest(-1, 0)", frame, Check.INDEX, () -> frame.cheapest(-1, 0));
    }

    private static void mate() {
        VowBlocks x = Check.with("5*20", "5,6,5,6", "5*4", "9*5", "5*4");
        check.same("equal values fit best, of two the lower", x.mate(0), 2);
        check.same("of a row that is alike", x.mate(2), 0);
        check.same("the lowest again", x.mate(4), 0);
        check.same("by runs or by steps the order matters", Check.with("1,2,3,4", "9,8,7,6", "5,6,7,8").mate(0), 2);
        VowBlocks small = Check.with("3,4,5,6,7,8", "8,9,7,8", "9");
        check.same("bits more than its own, whatever the other one cost", small.mate(0), 2);
        VowBlocks common = Check.with("7*9,8,7*3,200", "1,2", "7,8");
        check.same("bits by its own code", common.mate(0), 2);
        VowBlocks alone = Check.with("5");
        check.same("no other", alone.mate(0), VowBlocks.NONE);
        VowBlocks full = Check.with("5*24", "5", "6*23");
        check.same("none fits", full.mate(0), VowBlocks.NONE);
        check.same("24 together", full.mate(1), 2);
        check.same("the full one is left out", full.mate(2), 1);
        check.refuses("mate of block 3", full, Check.INDEX, () -> full.mate(3));
        check.refuses("mate of block -1", full, Check.INDEX, () -> full.mate(-1));
    }

    private static void meanBits() {
        VowBlocks x = new VowBlocks();
        check.holds("of nothing", x.meanBits() == 0.0);
        x.make(5, 24);
        check.holds("12 bits of 24 values", x.meanBits() == 0.5);
        check.same("the bits of a half in the digest", x.digest(), fromTheFace(x, ""));
        check.same("the bits of 12 / 23 in the digest", digestBehindTake(), 1);
        x.put(0, 23, 0);
        check.holds("by the code, not by the best one", x.meanBits() == 104.0 / 24);
        Check.row(x, "1,255,1");
        check.holds("of two blocks", x.meanBits() == (104.0 + 19) / 27);
        check.same("its bits in the digest", x.digest(), fromTheFace(x, ""));
    }

    private static int digestBehindTake() {
        VowBlocks x = new VowBlocks();
        x.make(5, 24);
        x.take(0, 3);
        return x.meanBits() == 12.0 / 23 && x.digest() == fromTheFace(x, "") ? 1 : 0;
    }

    private static void digest() {
        VowBlocks x = new VowBlocks();
        long due = 2441;
        long[] nothing = {0, 0, 0, 0, 0, 0, 0, 0, 0, 0, 0, 0, 0, 0, 0, 0, 30, 4, 0, 0};
        for (long v : nothing) {
            due = 31 * due + v;
        }
        check.same("digest of nothing", x.digest(), due);
        x.append('7');
        x.append('~');
        long two = 2441;
        for (int i = 0; i < nothing.length - 1; i++) {
            two = 31 * two + nothing[i];
        }
        two = ((31 * two + 2) * 31 + '7') * 31 + '~';
        check.same("digest with a buffer", x.digest(), two);
        VowBlocks y = Check.with("3,3,9", "9,3");
        y.put(0, 0, 250);
        y.pass(3);
        y.append('5');
        check.same("digest with blocks", y.digest(), fromTheFace(y, "5"));
    }

    /** The digest from the other answers of the face. */
    static long fromTheFace(VowBlocks x, String buffer) {
        long hash = 2441;
        for (int what = 0; what < 16; what++) {
            hash = 31 * hash + x.count(what);
        }
        hash = (31 * hash + x.setting(0)) * 31 + x.setting(1);
        for (int i = 0; i < x.count(0); i++) {
            for (int what = 0; what < 12; what++) {
                hash = 31 * hash + x.block(i, what);
            }
            for (int place = 0; place < x.block(i, 0); place++) {
                hash = 31 * hash + x.value(i, place);
            }
            for (int k = 0; k < 18; k++) {
                hash = 31 * hash + (k < 6 ? x.cost(i, k) : x.work(i, k % 6, k < 12 ? 0 : 2, 3));
            }
            hash = 31 * hash + x.regretIn(i, 20);
            hash = 31 * hash + x.gain(i);
            hash = 31 * hash + x.cheapest(i, 0);
            hash = 31 * hash + x.mate(i);
        }
        hash = 31 * hash + Double.doubleToLongBits(x.meanBits());
        hash = 31 * hash + buffer.length();
        for (char sign : buffer.toCharArray()) {
            hash = 31 * hash + sign;
        }
        return hash;
    }

    private static void nothingIsChanged() {
        VowBlocks x = Check.with("7*9,8,7*3,200", "10,11,12", "1,255,1,255,0*4");
        x.put(1, 1, 200);
        x.pass(4);
        Check.type(x, "4,5");
        long before = x.digest();
        for (int i = 0; i < 3; i++) {
            x.cost(i, 3);
            x.work(i, 2, 2, 7);
            x.regretIn(i, 100);
            x.gain(i);
            x.cheapest(i, 2);
            x.mate(i);
            x.firstError();
        }
        x.meanBits();
        check.same("the digest again", x.digest(), before);
        check.rows("the rows", x, "7,7,7,7,7,7,7,7,7,8,7,7,7,200", "10,200,12", "1,255,1,255,0,0,0,0");
    }
}
