/** The boundaries of the promises 10 to 13: pass, breakVow, ask, set. */
final class EdgesOfDays {
    private static final Check check = EdgesTest.check;

    private static final String NO_BLOCK = "Throws `IndexOutOfBoundsException` if there is no such block";

    static void tell(Edges edges) {
        edges.of("Promise 10", "Undoable, as one call.", EdgesOfDays::passIsOneCall);
        edges.of("Promise 10", "`days`: 1 to 100", EdgesOfDays::days);
        edges.of("Promise 10", "Returns the bits that all blocks regret in them.", EdgesOfDays::passSums);
        edges.of("Promise 10", "Throws `IllegalArgumentException` if days is out of range", EdgesOfDays::passRefuses);
        edges.of("Promise 10", "Throws `IllegalStateException` if the number of the day would be above 5000", EdgesOfDays::lastDay);
        edges.of("Promise 11", "(setting 0, less the days that have gone since it vowed, but at least 0)", EdgesOfDays::daysLeft);
        edges.of("Promise 11", "it pays setting 1 for each day that is left of it", EdgesOfDays::finePaid);
        edges.of("Promise 11", "chooses the best code, and vows on this day.", EdgesOfDays::breakChooses);
        edges.of("Promise 11", NO_BLOCK, () -> check.noSuchBlock("breakVow", (x, block) -> x.breakVow(block)));
        edges.of("Promise 12", "`question`: 0 to 2", EdgesOfDays::questions);
        edges.of("Promise 12", "`v`: 0 to 255", EdgesOfDays::askedValues);
        edges.of("Promise 12", "Returns the answer.", EdgesOfDays::answers);
        edges.of("Promise 12", NO_BLOCK, () -> check.noSuchBlock("ask", (x, block) -> x.ask(block, 0, 0)));
        edges.of("Promise 12", "Throws `IllegalArgumentException` if question or v is out of range", EdgesOfDays::askRefuses);
        edges.of("Promise 13", "`setting`: 0 or 1", EdgesOfDays::settings);
        edges.of("Promise 13", "Returns the previous value.", EdgesOfDays::previousValue);
        edges.of("Promise 13", "Throws `IndexOutOfBoundsException` if there is no such setting", EdgesOfDays::noSuchSetting);
        edges.of("Promise 13", "Throws `IllegalArgumentException` if value is out of range", EdgesOfDays::setRefuses);
    }

    // ---- pass

    private static void passIsOneCall() {
        VowBlocks x = EdgesOfTerms.regretful();
        long before = x.digest();
        x.pass(100);
        check.same("saved by 100 days", x.count(9), 3);
        check.same("the days, the choices and the regrets", x.count(1) * 100000 + x.block(0, 11) * 10000 + x.block(0, 4), 10045790);
        check.same("undo", x.undo(), 2);
        check.same("all is as before", x.digest(), before);
    }

    private static void days() {
        VowBlocks x = new VowBlocks();
        check.same("one day of nothing", x.pass(1), 0);
        check.same("the day", x.count(1), 1);
        check.same("100 days of nothing", x.pass(100), 0);
        check.same("the day", x.count(1), 101);
    }

    private static void passSums() {
        VowBlocks x = new VowBlocks();
        check.same("without blocks", x.pass(9), 0);
        for (int i = 0; i < 8; i++) {
            x.make(255, 24);
        }
        check.same("no regrets", x.pass(9), 0);
        for (int i = 0; i < 8; i++) {
            x.put(i, 23, 0);
        }
        check.same("eight blocks on a day", x.pass(1), 8 * 193);
        check.same("eight blocks to the end of the year, which is the day 39", x.pass(100), 8 * 193 * 20);
        check.same("what they regret so far", x.count(5), 8 * 193 * 21);
        VowBlocks steady = EdgesOfTerms.regretful();
        steady.set(0, 400);
        check.same("100 days", steady.pass(100), 19300);
    }

    private static void passRefuses() {
        VowBlocks x = Check.with("5");
        check.range("pass", x, Check.ARGUMENT, 1, 100, days -> x.pass(days));
    }

    private static void lastDay() {
        VowBlocks x = Check.with("5");
        EdgesOfTerms.pass(x, 4900);
        check.same("up to the day 5000", x.pass(100), 0);
        check.same("the day 5000", x.count(1), 5000);
        check.refuses("a day more", x, Check.STATE, () -> x.pass(1));
        check.refuses("100 days more", x, Check.STATE, () -> x.pass(100));
        x.undo();
        x.pass(1);
        check.refuses("100 days from 4901", x, Check.STATE, () -> x.pass(100));
        x.pass(98);
        check.refuses("two days from 4999", x, Check.STATE, () -> x.pass(2));
        check.same("a day from 4999", x.pass(1), 0);
        check.same("the day 5000 again", x.count(1), 5000);
        check.same("a vow can be broken there", x.breakVow(0), 4 * (30 - 5000 % 30));
        check.same("and made there", x.block(0, 3), 5000);
    }

    // ---- breakVow

    private static void daysLeft() {
        VowBlocks x = Check.with("5");
        check.same("the whole year", x.breakVow(0), 120);
        x.pass(1);
        check.same("a day less", x.breakVow(0), 116);
        x.pass(29);
        check.same("one day is left", x.breakVow(0), 4);
        x.pass(10);
        x.set(0, 11);
        check.same("one day of a shorter year", x.breakVow(0), 4);
        x.pass(10);
        x.set(0, 10);
        check.same("none is left", x.breakVow(0), 0);
        x.pass(9);
        x.set(0, 8);
        check.same("one less than none", x.breakVow(0), 0);
        x.set(0, 400);
        x.pass(100);
        x.set(0, 1);
        check.same("99 less than none", x.breakVow(0), 0);
        check.same("fines so far", x.block(0, 7), 244);
    }

    private static void finePaid() {
        VowBlocks x = Check.with("5", "6");
        x.set(1, 0);
        check.same("a fine of 0", x.breakVow(0), 0);
        x.set(1, 1);
        check.same("a fine of 1", x.breakVow(0), 30);
        x.set(1, 100);
        x.set(0, 400);
        check.same("the greatest fine of the longest year", x.breakVow(0), 40000);
        check.same("the fines of the block", x.block(0, 7), 40030);
        check.same("of the other one", x.block(1, 7), 0);
        check.same("of all", x.count(7), 40030);
    }

    private static void breakChooses() {
        VowBlocks x = EdgesOfTerms.regretful();
        x.breakVow(0);
        check.same("on the day of the vow", x.block(0, 1), 1);
        check.same("the vow", x.block(0, 3), 0);
        check.same("its choices", x.block(0, 11), 2);
        x.pass(7);
        x.breakVow(0);
        check.same("the same code", x.block(0, 1), 1);
        check.same("the vow", x.block(0, 3), 7);
        check.same("its choices", x.block(0, 11), 3);
    }

    // ---- ask

    private static void questions() {
        VowBlocks x = Check.with("7,8,7");
        check.same("question 0", x.ask(0, 0, 7), 2);
        check.same("question 1", x.ask(0, 1, 7), 22);
        check.same("question 2", x.ask(0, 2, 8), 1);
    }

    private static void askedValues() {
        VowBlocks x = Check.with("0,255,255");
        for (int question = 0; question < 3; question++) {
            int[] least = {1, 510, 0};
            int[] greatest = {2, 510, 1};
            check.same("question " + question + " with 0", x.ask(0, question, 0), least[question]);
            check.same("question " + question + " with 255", x.ask(0, question, 255), greatest[question]);
        }
    }

    private static void answers() {
        VowBlocks x = Check.with("7*24");
        check.same("none", x.ask(0, 0, 8), 0);
        check.same("all", x.ask(0, 0, 7), 24);
        check.same("no place", x.ask(0, 2, 8), VowBlocks.NONE);
        check.same("the first place", x.ask(0, 2, 7), 0);
        x.put(0, 23, 9);
        check.same("the last place", x.ask(0, 2, 9), 23);
        check.same("its questions", x.block(0, 6), 5);
    }

    private static void askRefuses() {
        VowBlocks x = Check.with("5");
        check.range("ask, question", x, Check.ARGUMENT, 0, 2, question -> x.ask(0, question, 0));
        for (int i = 0; i < 3; i++) {
            int question = i;
            check.range("ask " + question + ", v", x, Check.ARGUMENT, 0, 255, v -> x.ask(0, question, v));
        }
        check.refuses("ask, both", x, Check.ARGUMENT, () -> x.ask(0, 3, 256));
    }

    // ---- set

    private static void settings() {
        VowBlocks x = new VowBlocks();
        x.set(0, 77);
        check.same("setting 0", x.setting(0), 77);
        check.same("not setting 1", x.setting(1), 4);
        x.set(1, 78);
        check.same("not setting 0", x.setting(0), 77);
        check.same("setting 1", x.setting(1), 78);
    }

    private static void previousValue() {
        VowBlocks x = new VowBlocks();
        check.same("the first year", x.set(0, 1), 30);
        check.same("the least year", x.set(0, 400), 1);
        check.same("the greatest year", x.set(0, 400), 400);
        check.same("the first fine", x.set(1, 0), 4);
        check.same("the least fine", x.set(1, 100), 0);
        check.same("the greatest fine", x.set(1, 100), 100);
    }

    private static void noSuchSetting() {
        VowBlocks x = new VowBlocks();
        check.range("set", x, Check.INDEX, 0, 1, setting -> x.set(setting, 50));
    }

    private static void setRefuses() {
        VowBlocks x = new VowBlocks();
        check.range("the year", x, Check.ARGUMENT, 1, 400, value -> x.set(0, value));
        check.range("the fine", x, Check.ARGUMENT, 0, 100, value -> x.set(1, value));
        check.same("a fine that is no year", x.set(1, 0), 100);
        check.same("a year that is no fine", x.set(0, 101), 400);
    }
}
