/** Promises 10 to 13: pass, breakVow, ask, set. */
public final class DaysTest {
    private static final Check check = new Check("DaysTest");

    public static void main(String[] args) {
        pass();
        passChoosesAnew();
        passWithShorterYear();
        passRefuses();
        breakVow();
        askAnswers();
        askCountsWork();
        askRefuses();
        set();
        setRefuses();
        check.finish();
    }

    /** A block of steps with 12 bits that costs 219 by them and 26 by runs. */
    private static VowBlocks regretful() {
        VowBlocks x = new VowBlocks();
        x.make(255, 24);
        x.put(0, 23, 0);
        return x;
    }

    private static void pass() {
        VowBlocks x = regretful();
        x.make(5, 2);
        check.same("pass of one day", x.pass(1), 193);
        check.same("the day", x.count(1), 1);
        check.same("its regrets", x.block(0, 4), 193);
        check.same("no regrets of the best code", x.block(1, 4), 0);
        check.same("pass of nine", x.pass(9), 9 * 193);
        check.same("the day", x.count(1), 10);
        check.same("all regrets", x.count(5), 1930);
        check.same("the code is kept", x.block(0, 1), 3);
        int saved = x.count(9);
        x.pass(100);
        check.same("pass is one call for undo", x.count(9), saved + 1);
        x.undo();
        check.same("the day after undo", x.count(1), 10);
        check.same("the regrets after undo", x.block(0, 4), 1930);
        check.same("pass without blocks", new VowBlocks().pass(100), 0);
        VowBlocks two = regretful();
        two.make(255, 24);
        two.put(1, 23, 0);
        check.same("pass sums all blocks", two.pass(3), 6 * 193);
        VowBlocks eight = new VowBlocks();
        for (int i = 0; i < 8; i++) {
            eight.make(255, 24);
            eight.put(i, 23, 0);
        }
        check.same("pass sums eight blocks", eight.pass(2), 16 * 193);
    }

    private static void passChoosesAnew() {
        VowBlocks x = regretful();
        check.same("pass of 29 days", x.pass(29), 29 * 193);
        check.same("still its code", x.block(0, 1), 3);
        check.same("the day 30: regrets ahead of the choice", x.pass(1), 193);
        check.same("the new code", x.block(0, 1), 1);
        check.same("the new vow", x.block(0, 3), 30);
        check.same("it chose again", x.block(0, 11), 2);
        check.same("nothing more to regret", x.pass(29), 0);
        check.same("the vow is young", x.block(0, 3), 30);
        x.pass(1);
        check.same("a vow anew with the same code", x.block(0, 3), 60);
        check.same("that is a choice as well", x.block(0, 11), 3);
        x.pass(100);
        check.same("three years in one call", x.block(0, 11), 6);
        check.same("the last vow", x.block(0, 3), 150);
        VowBlocks daily = regretful();
        daily.set(0, 1);
        daily.pass(10);
        check.same("a year of one day", daily.block(0, 11), 11);
        check.same("its vow", daily.block(0, 3), 10);
    }

    private static void passWithShorterYear() {
        VowBlocks x = regretful();
        x.pass(20);
        x.set(0, 5);
        check.same("a late choice is on the next day only", x.block(0, 1), 3);
        check.same("it regrets that day", x.pass(3), 193);
        check.same("and chose", x.block(0, 3), 21);
        VowBlocks longer = regretful();
        longer.set(0, 400);
        check.same("a long year", longer.pass(100), 19300);
        longer.pass(100);
        longer.pass(100);
        longer.pass(99);
        check.same("a day is left", longer.block(0, 11), 1);
        longer.pass(1);
        check.same("the day 400", longer.block(0, 11), 2);
    }

    private static void passRefuses() {
        VowBlocks x = Check.with("5");
        for (int days : new int[] {0, 101, -1, Integer.MAX_VALUE, Integer.MIN_VALUE}) {
            check.refuses("pass(" + days + ")", x, Check.ARGUMENT, () -> x.pass(days));
        }
        for (int i = 0; i < 49; i++) {
            x.pass(100);
        }
        x.pass(99);
        check.refuses("pass to 5001", x, Check.STATE, () -> x.pass(2));
        check.refuses("pass(101) there", x, Check.ARGUMENT, () -> x.pass(101));
        x.pass(1);
        check.same("the last day", x.count(1), 5000);
        check.refuses("pass behind it", x, Check.STATE, () -> x.pass(1));
    }

    private static void breakVow() {
        VowBlocks x = regretful();
        x.pass(10);
        check.same("the fine for 20 days", x.breakVow(0), 80);
        check.same("its code", x.block(0, 1), 1);
        check.same("its vow", x.block(0, 3), 10);
        check.same("its fines", x.block(0, 7), 80);
        check.same("its choices", x.block(0, 11), 2);
        check.same("the fine of a young vow", x.breakVow(0), 120);
        check.same("its fines in all", x.block(0, 7), 200);
        check.same("fines of all", x.count(7), 200);
        check.same("breakVow is saved", x.count(9), 5);
        x.undo();
        check.same("a fine undone", x.block(0, 7), 80);
        x.set(1, 0);
        check.same("no fine", x.breakVow(0), 0);
        x.set(1, 100);
        x.pass(9);
        x.set(0, 5);
        check.same("no day is left", x.breakVow(0), 0);
        check.same("a vow of this day", x.block(0, 3), 19);
        check.same("five days are left", x.breakVow(0), 500);
        check.refuses("breakVow of block 1", x, Check.INDEX, () -> x.breakVow(1));
        check.refuses("breakVow of block -1", x, Check.INDEX, () -> x.breakVow(-1));
    }

    private static void askAnswers() {
        VowBlocks x = Check.with("7*9,8,7*3,200", "0");
        check.same("how many", x.ask(0, 0, 7), 12);
        check.same("how many of none", x.ask(0, 0, 9), 0);
        check.same("the sum", x.ask(0, 1, 255), 12 * 7 + 208);
        check.same("the first", x.ask(0, 2, 7), 0);
        check.same("the first 8", x.ask(0, 2, 8), 9);
        check.same("the first at the end", x.ask(0, 2, 200), 13);
        check.same("the first of none", x.ask(0, 2, 0), VowBlocks.NONE);
        check.same("questions", x.block(0, 6), 7);
        check.same("of the other", x.block(1, 6), 0);
        check.same("ask is saved", x.count(9), 6);
        x.undo();
        check.same("a question undone", x.block(0, 6), 6);
        VowBlocks full = Check.with("10*23,200");
        check.same("the sum of 24", full.ask(0, 1, 0), 430);
        check.same("the first at the end of 24", full.ask(0, 2, 200), 23);
        check.same("how many of 24", full.ask(0, 0, 10), 23);
        check.same("a sum of 0", x.ask(1, 1, 0), 0);
    }

    private static void askCountsWork() {
        String[] rows = {"9", "5*9,1*9", "1,255,1,255,0*4", "10,11,12,13,14,15,16", "7*9,8,7*3,200", "9,14,12,8,15,10,13,11,8,9"};
        for (int code = 0; code < 6; code++) {
            VowBlocks x = Check.with(rows[code]);
            check.same("the code of " + rows[code], x.block(0, 1), code);
            int due = 0;
            for (int question = 0; question < 3; question++) {
                for (int v = 0; v < 256; v += 5) {
                    due += x.work(0, code, question, v);
                    x.ask(0, question, v);
                }
            }
            check.same("work of " + rows[code], x.block(0, 5), due);
            check.same("work of all", x.count(6), due);
            x.undo();
            check.holds("work is undone", x.block(0, 5) < due);
        }
    }

    private static void askRefuses() {
        VowBlocks x = Check.with("5");
        check.refuses("question 3", x, Check.ARGUMENT, () -> x.ask(0, 3, 0));
        check.refuses("question -1", x, Check.ARGUMENT, () -> x.ask(0, -1, 0));
        check.refuses("v 256", x, Check.ARGUMENT, () -> x.ask(0, 0, 256));
        check.refuses("v -1", x, Check.ARGUMENT, () -> x.ask(0, 2, -1));
        check.refuses("v 256 for the sum", x, Check.ARGUMENT, () -> x.ask(0, 1, 256));
        check.refuses("block 1 with question 3", x, Check.INDEX, () -> x.ask(1, 3, 256));
        check.refuses("block -1", x, Check.INDEX, () -> x.ask(-1, 0, 0));
    }

    private static void set() {
        VowBlocks x = new VowBlocks();
        check.same("set the year", x.set(0, 400), 30);
        check.same("set the year back", x.set(0, 1), 400);
        check.same("set the fine", x.set(1, 100), 4);
        check.same("set the fine to 0", x.set(1, 0), 100);
        check.same("the year", x.setting(0), 1);
        check.same("the fine", x.setting(1), 0);
        x.set(1, 0);
        check.same("set is saved, also if it changes nothing", x.count(9), 5);
        x.undo();
        x.undo();
        check.same("the fine after undo", x.setting(1), 100);
        x.undo();
        x.undo();
        check.same("the year after undo", x.setting(0), 400);
        check.same("the fine after undo", x.setting(1), 4);
    }

    private static void setRefuses() {
        VowBlocks x = new VowBlocks();
        int[][] wrong = {{0, 0}, {0, 401}, {0, -5}, {1, -1}, {1, 101}, {1, Integer.MAX_VALUE}};
        for (int[] w : wrong) {
            check.refuses("set(" + w[0] + ", " + w[1] + ")", x, Check.ARGUMENT, () -> x.set(w[0], w[1]));
        }
        check.refuses("set(2, -1)", x, Check.INDEX, () -> x.set(2, -1));
        check.refuses("set(-1, 5)", x, Check.INDEX, () -> x.set(-1, 5));
    }
}
