/** The boundaries that are named ahead of the promises: what it is, blocks, vows, settings, undo, exceptions. */
final class EdgesOfTerms {
    private static final Check check = EdgesTest.check;

    static void tell(Edges edges) {
        edges.of("What it is", "An object is used for at most 512 calls after it has been made", EdgesOfTerms::lastCall);
        edges.of("Exceptions", "`NONE = -1`: There is nothing to return.", EdgesOfTerms::none);
        edges.of("Blocks", "There are at most 8 blocks, numbered from 0", EdgesOfTerms::eightBlocks);
        edges.of("Blocks", "if one is gone, those behind it have numbers that are less by 1.", EdgesOfTerms::lessByOne);
        edges.of("Blocks", "A block has a row of n values, 0 to 255 each", EdgesOfTerms::valuesOfRows);
        edges.of("Blocks", "n from 1 to 24", EdgesOfTerms::sizesOfRows);
        edges.of("Vows", "A block that is made chooses the best code, and vows on this day.", EdgesOfTerms::made);
        edges.of("Vows", "While it has values that are changed, it keeps its code.", EdgesOfTerms::keepsItsCode);
        edges.of("Vows", "When a day passes, its number becomes 1 more", EdgesOfTerms::oneMore);
        edges.of("Vows", "each block, by ascending numbers, regrets the bits by which its code costs more than its best one",
                EdgesOfTerms::regrets);
        edges.of("Vows", "if setting 0 or more days have gone since it vowed", EdgesOfTerms::yearEnds);
        edges.of("Vows", "it chooses the best code anew, and vows on this day.", EdgesOfTerms::choosesAnew);
        edges.of("Vows", "There is a number of the day, at first 0.", EdgesOfTerms::firstDay);
        edges.of("Settings", "0: the year, 1 to 400 days, at first 30", EdgesOfTerms::year);
        edges.of("Settings", "1: the fine in bits for each day that is left of a vow, 0 to 100, at first 4.", EdgesOfTerms::fine);
        edges.of("Undo", "Each method that is marked \"undoable\" and does not throw an exception saves the state from before it",
                EdgesOfTerms::saves);
        edges.of("Undo", "(also if it changes nothing)", EdgesOfTerms::savesWithoutChange);
        edges.of("Undo", "all, also what is counted so far", EdgesOfTerms::savesAll);
        edges.of("Undo", "but the buffer and the saved states.", EdgesOfTerms::keepsTheBuffer);
        edges.of("Undo", "At most 6 states are saved; the oldest one is dropped first.", EdgesOfTerms::sixStates);
        edges.of("Exceptions", "A call that throws an exception changes nothing.", EdgesOfTerms::refusedCallsChangeNothing);
        edges.of("Exceptions", "If several exceptions apply, the one that is named first in the throws clause is thrown.",
                EdgesOfTerms::firstNamed);
    }

    /** Eight blocks; the last one has two values, so that it can be cut. */
    static VowBlocks eight() {
        return Check.with("10", "11", "12", "13", "14", "15", "16", "17,18");
    }

    /** A block of steps, 12 bits at first, that costs 219 by them now and 26 by runs: it regrets 193 a day. */
    static VowBlocks regretful() {
        VowBlocks x = new VowBlocks();
        x.make(255, 24);
        x.put(0, 23, 0);
        return x;
    }

    static void pass(VowBlocks x, int days) {
        for (int left = days; left > 0; left -= 100) {
            x.pass(Math.min(left, 100));
        }
    }

    // ---- what it is

    private static void lastCall() {
        VowBlocks x = regretful();
        int regrets = 0;
        for (int call = 3; call <= 510; call++) {
            regrets += x.pass(1);
        }
        check.same("the regrets of 508 days", regrets, 30 * 193);
        check.same("call 511", x.undo(), 5);
        check.same("call 512", x.count(1), 507);
        VowBlocks typed = new VowBlocks();
        for (int call = 1; call <= 510; call += 3) {
            typed.append('7');
            typed.read();
            typed.undo();
        }
        check.same("call 511", typed.append('8'), 1);
        check.same("call 512", typed.read(), 0);
    }

    private static void none() {
        check.same("NONE", VowBlocks.NONE, -1);
        VowBlocks x = Check.with("5");
        check.same("no place", x.ask(0, 2, 6), -1);
        check.same("no mate", x.mate(0), -1);
    }

    // ---- blocks

    private static void eightBlocks() {
        VowBlocks x = new VowBlocks();
        for (int number = 0; number < 8; number++) {
            check.same("blocks", x.count(0), number);
            check.same("the number", x.make(number, 2), number);
        }
        check.same("eight blocks", x.count(0), 8);
        for (int number = 0; number < 8; number++) {
            check.same("a value of " + number, x.value(number, 1), number);
        }
        Check.type(x, "9");
        check.refuses("make of a ninth", x, Check.STATE, () -> x.make(9, 1));
        check.refuses("read of a ninth", x, Check.STATE, x::read);
        check.refuses("cut of a ninth", x, Check.STATE, () -> x.cut(0, 1));
        x.join(0, 1);
        check.same("an eighth one again", x.read(), 7);
        check.refuses("make of a ninth again", x, Check.STATE, () -> x.make(9, 1));
    }

    private static void lessByOne() {
        String[] rows = {"10", "11", "12", "13", "14", "15", "16", "17,18"};
        for (int gone = 0; gone < 8; gone++) {
            VowBlocks x = eight();
            int one = gone == 3 ? 4 : 3;
            x.join(one, gone);
            check.same("blocks, " + gone + " is gone", x.count(0), 7);
            for (int number = 0; number < 7; number++) {
                int before = number < gone ? number : number + 1;
                String due = before == one ? rows[one] + "," + rows[gone] : rows[before];
                check.holds("the block " + number + ", " + gone + " is gone", Check.values(x, number).equals(due));
            }
            check.refuses("the number 7, " + gone + " is gone", x, Check.INDEX, () -> x.block(7, 0));
        }
    }

    private static void valuesOfRows() {
        for (int v : new int[] {0, 255}) {
            VowBlocks x = new VowBlocks();
            x.make(v, 1);
            Check.row(x, "" + v);
            x.add(0, v);
            x.put(1, 0, 7);
            x.put(1, 0, v);
            check.rows("rows of " + v, x, v + "," + v, "" + v);
        }
        for (int v : new int[] {-1, 256}) {
            VowBlocks x = Check.with("5,6");
            check.refuses("make of " + v, x, Check.ARGUMENT, () -> x.make(v, 1));
            check.refuses("add of " + v, x, Check.ARGUMENT, () -> x.add(0, v));
            check.refuses("put of " + v, x, Check.ARGUMENT, () -> x.put(0, 0, v));
            Check.type(x, "" + v);
            check.refuses("read of " + v, x, Check.ARGUMENT, x::read);
        }
    }

    private static void sizesOfRows() {
        VowBlocks x = new VowBlocks();
        x.make(5, 1);
        x.make(6, 24);
        check.same("one value", x.block(0, 0), 1);
        check.same("24 values", x.block(1, 0), 24);
        check.refuses("make of none", x, Check.ARGUMENT, () -> x.make(5, 0));
        check.refuses("make of 25", x, Check.ARGUMENT, () -> x.make(5, 25));
        check.refuses("read of none", x, Check.ARGUMENT, x::read);
        Check.type(x, "5*24,6");
        check.refuses("read of 25", x, Check.ARGUMENT, x::read);
        check.refuses("add to 24", x, Check.STATE, () -> x.add(1, 6));
        check.refuses("take of the only one", x, Check.STATE, () -> x.take(0, 0));
        check.refuses("join to 25", x, Check.STATE, () -> x.join(1, 0));
        check.refuses("cut of all", x, Check.INDEX, () -> x.cut(1, 0));
        check.refuses("cut of none", x, Check.INDEX, () -> x.cut(1, 24));
        check.same("cut of one", x.cut(1, 23), 2);
        check.same("23 are left", x.block(1, 0), 23);
        check.same("join to 24", x.join(1, 2), 1);
        check.same("24 again", x.block(1, 0), 24);
        Check.row(x, "7*24");
        Check.row(x, "7");
        check.same("24 are read", x.block(2, 0), 24);
        check.same("one is read", x.block(3, 0), 1);
    }

    // ---- vows, regrets

    private static void made() {
        for (int day : new int[] {0, 1, 29, 30, 5000}) {
            VowBlocks x = new VowBlocks();
            pass(x, day);
            x.make(5, 24);
            Check.row(x, "5*9,1*9");
            x.cut(1, 9);
            int[] codes = {3, 1, 3};
            for (int number = 0; number < 3; number++) {
                check.same("the code of " + number + " on the day " + day, x.block(number, 1), codes[number]);
                check.same("the vow of " + number + " on the day " + day, x.block(number, 3), day);
                check.same("the choices of " + number + " on the day " + day, x.block(number, 11), 1);
            }
        }
    }

    private static void keepsItsCode() {
        VowBlocks x = Check.with("9,8,7,6,5,4,3,2,1", "200");
        check.same("steps at first", x.block(0, 1), 3);
        x.pass(7);
        x.put(0, 0, 200);
        x.put(0, 8, 100);
        x.add(0, 255);
        x.take(0, 1);
        x.turn(0);
        x.join(0, 1);
        x.cut(0, 8);
        check.holds("steps are not the best code now", x.block(0, 8) != 3);
        check.same("steps still", x.block(0, 1), 3);
        check.same("the vow is kept", x.block(0, 3), 0);
        check.same("no choice besides", x.block(0, 11), 1);
    }

    private static void oneMore() {
        VowBlocks x = new VowBlocks();
        for (int day = 1; day <= 3; day++) {
            x.pass(1);
            check.same("the number of the day", x.count(1), day);
        }
        x.pass(97);
        check.same("the number of the day", x.count(1), 100);
    }

    private static void regrets() {
        VowBlocks x = regretful();
        Check.row(x, "5*24");
        Check.row(x, "1,2");
        x.put(2, 1, 1);
        check.same("all of them", x.pass(1), 193 + x.block(2, 2) - x.block(2, 9));
        check.same("the worst one", x.block(0, 4), 193);
        check.same("none by the best code", x.block(1, 4), 0);
        check.holds("by one bit or more", x.block(2, 4) > 0 && x.block(2, 4) == x.block(2, 2) - x.block(2, 9));
    }

    private static void yearEnds() {
        for (int year : new int[] {1, 2, 30, 100, 399, 400}) {
            VowBlocks x = regretful();
            x.set(0, year);
            pass(x, year - 1);
            check.same("a day is left of " + year, x.block(0, 3), 0);
            check.same("and no choice yet", x.block(0, 11), 1);
            x.pass(1);
            check.same("none is left of " + year, x.block(0, 3), year);
            check.same("and a choice", x.block(0, 11), 2);
        }
        VowBlocks late = regretful();
        late.pass(20);
        late.set(0, 7);
        check.same("set chooses nothing", late.block(0, 11), 1);
        late.pass(1);
        check.same("more than the year has gone", late.block(0, 3), 21);
        late.pass(7);
        check.same("and a year from there", late.block(0, 3), 28);
    }

    private static void choosesAnew() {
        VowBlocks x = regretful();
        check.same("regrets ahead of the choice", x.pass(30), 30 * 193);
        check.same("the best code", x.block(0, 1), 1);
        check.same("on this day", x.block(0, 3), 30);
        check.same("nothing to regret", x.pass(30), 0);
        check.same("the same code anew", x.block(0, 1), 1);
        check.same("on this day", x.block(0, 3), 60);
        check.same("three choices", x.block(0, 11), 3);
    }

    private static void firstDay() {
        VowBlocks x = new VowBlocks();
        check.same("the number of the day", x.count(1), 0);
        x.make(5, 1);
        check.same("the first vow", x.block(0, 3), 0);
    }

    // ---- settings

    private static void setting(int setting, int first, int least, int greatest) {
        VowBlocks x = new VowBlocks();
        check.same("at first", x.setting(setting), first);
        check.same("the greatest", x.set(setting, greatest), first);
        check.same("the greatest", x.setting(setting), greatest);
        check.same("the least", x.set(setting, least), greatest);
        check.same("the least", x.setting(setting), least);
        check.range("the value", x, Check.ARGUMENT, least, greatest, value -> x.set(setting, value));
    }

    private static void year() {
        setting(0, 30, 1, 400);
        VowBlocks x = Check.with("5");
        x.set(0, 400);
        check.same("400 days to pay for", x.breakVow(0), 1600);
        x.set(0, 1);
        check.same("a day to pay for", x.breakVow(0), 4);
    }

    private static void fine() {
        setting(1, 4, 0, 100);
        VowBlocks x = Check.with("5");
        check.same("4 for each day", x.breakVow(0), 120);
        x.set(1, 100);
        check.same("100 for each day", x.breakVow(0), 3000);
        x.set(1, 0);
        check.same("nothing for each day", x.breakVow(0), 0);
    }

    // ---- undo

    private static void saved(String what, VowBlocks x, int due, Check.Call call) {
        int before = x.count(9);
        call.answer();
        check.same("states saved by " + what, x.count(9) - before, due);
    }

    private static void saves() {
        VowBlocks x = Check.with("1,2,3", "4");
        VowBlocks y = Check.with("1,2,3", "4");
        Check.type(x, "5,6");
        saved("read", x, 1, x::read);
        saved("make", x, 1, () -> x.make(7, 2));
        saved("add", x, 1, () -> x.add(0, 9));
        saved("put", x, 1, () -> x.put(0, 0, 9));
        saved("undo", x, -1, x::undo);
        saved("undo", x, -1, x::undo);
        saved("take", x, 1, () -> x.take(0, 0));
        saved("turn", x, 1, () -> x.turn(0));
        saved("join", y, 1, () -> y.join(0, 1));
        saved("cut", y, 1, () -> y.cut(0, 1));
        saved("pass", y, 1, () -> y.pass(9));
        saved("breakVow", y, 1, () -> y.breakVow(0));
        saved("undo", y, -1, y::undo);
        saved("ask", y, 1, () -> y.ask(0, 0, 0));
        saved("undo", y, -1, y::undo);
        saved("set", y, 1, () -> y.set(0, 9));
        saved("undo", y, -1, y::undo);
        saved("append", y, 0, () -> y.append('1'));
        saved("firstError", y, 0, y::firstError);
        saved("clearBuffer", y, 0, y::clearBuffer);
        saved("looks", y, 0, () -> y.block(0, 2) + y.value(0, 0) + y.count(3) + y.setting(0) + y.cost(0, 3) + y.work(0, 1, 2, 3));
        saved("looks ahead", y, 0, () -> y.regretIn(0, 9) + y.gain(0) + y.cheapest(0, 0) + y.mate(0) + y.digest() + (long) y.meanBits());
        saved("a refused make", y, 0, () -> answered(() -> y.make(256, 1)));
        saved("a refused cut", y, 0, () -> answered(() -> y.cut(0, 0)));
        saved("a refused pass", y, 0, () -> answered(() -> y.pass(0)));
    }

    private static int answered(Check.Call call) {
        try {
            call.answer();
            return 1;
        } catch (RuntimeException e) {
            return 0;
        }
    }

    private static void savesWithoutChange() {
        VowBlocks x = Check.with("5", "6,6");
        saved("put of the same value", x, 1, () -> x.put(0, 0, 5));
        saved("turn of one value", x, 1, () -> x.turn(0));
        saved("turn of equal values", x, 1, () -> x.turn(1));
        saved("set of the same value", x, 1, () -> x.set(0, 30));
        x.undo();
        saved("set of the same fine", x, 1, () -> x.set(1, 4));
        check.same("five left", x.undo(), 5);
        for (int left = 4; left >= 2; left--) {
            check.same("undo of no change", x.undo(), left);
            check.rows("undo of no change", x, "5", "6,6");
        }
        check.same("undo of the second block", x.undo(), 1);
        check.rows("undo of the second block", x, "5");
    }

    private static void savesAll() {
        VowBlocks x = regretful();
        Check.row(x, "7*9,8,7*3,200");
        Check.row(x, "7");
        x.pass(3);
        x.ask(0, 1, 0);
        x.breakVow(1);
        // The digest tells the number of saved states too: one of six is given back, so that a change drops none.
        x.undo();
        long before = x.digest();
        Check.Call[] changes = {() -> x.make(9, 2), () -> x.add(1, 77), () -> x.put(0, 5, 1), () -> x.take(0, 3), () -> x.turn(0),
            () -> x.join(1, 2), () -> x.join(2, 1), () -> x.cut(0, 12), () -> x.pass(77), () -> x.breakVow(0), () -> x.breakVow(1),
            () -> x.ask(1, 2, 200), () -> x.set(0, 9), () -> x.set(1, 9)};
        for (int i = 0; i < changes.length; i++) {
            changes[i].answer();
            check.holds("change " + i + " is told by the digest", x.digest() != before);
            x.undo();
            check.same("all behind the undone change " + i, x.digest(), before);
        }
    }

    private static void keepsTheBuffer() {
        VowBlocks x = new VowBlocks();
        x.make(5, 1);
        Check.type(x, "1,2");
        x.undo();
        check.same("undo leaves what was typed since", x.clearBuffer(), 3);
        Check.type(x, "1,2");
        x.make(5, 1);
        x.clearBuffer();
        x.undo();
        check.same("undo brings back nothing that was cleared since", x.clearBuffer(), 0);
        Check.type(x, "1,2");
        x.read();
        check.same("undo of read", x.undo(), 0);
        check.same("undo of read does not fill the buffer", x.clearBuffer(), 0);
    }

    private static void sixStates() {
        VowBlocks x = new VowBlocks();
        int[] saved = {1, 2, 3, 4, 5, 6, 6, 6, 6, 6, 6, 6, 6};
        for (int i = 0; i < saved.length; i++) {
            x.set(1, 10 + i);
            check.same("saved by " + (i + 1) + " calls", x.count(9), saved[i]);
        }
        for (int left = 5; left >= 0; left--) {
            check.same("undo", x.undo(), left);
            check.same("the fine", x.setting(1), 16 + left);
        }
        check.refuses("undo of a dropped state", x, Check.STATE, x::undo);
    }

    // ---- exceptions

    /** Calls that are refused on the object that refusing() makes; each method that throws is among them. */
    private static Check.Call[] refusedCalls(VowBlocks x) {
        return new Check.Call[] {
            () -> x.make(256, 1), () -> x.make(0, 1), x::read, () -> x.add(8, 1), () -> x.add(0, 256), () -> x.add(0, 1),
            () -> x.put(8, 0, 1), () -> x.put(1, 2, 1), () -> x.put(1, 0, 256), () -> x.take(8, 0), () -> x.take(1, 2),
            () -> x.take(2, 0), () -> x.turn(8), () -> x.join(0, 8), () -> x.join(8, 0), () -> x.join(1, 1),
            () -> x.join(0, 1), () -> x.join(1, 0), () -> x.cut(8, 1), () -> x.cut(1, 0), () -> x.cut(1, 2),
            () -> x.cut(1, 1), () -> x.pass(0), () -> x.pass(101), () -> x.pass(100), () -> x.breakVow(8),
            () -> x.ask(8, 0, 0), () -> x.ask(0, 3, 0), () -> x.ask(0, 0, 256), () -> x.set(2, 1), () -> x.set(0, 0),
            () -> x.set(1, 101), () -> x.append(32), () -> x.append('1'), () -> x.block(8, 0), () -> x.block(0, 12),
            () -> x.value(1, 2), () -> x.count(16), () -> x.setting(2), () -> x.cost(0, 6), () -> x.work(0, 0, 3, 0),
            () -> x.regretIn(0, 201), () -> x.gain(8), () -> x.cheapest(1, 2), () -> x.mate(8),
        };
    }

    /** Eight blocks, of 24, 2 and 1 values and more, on the day 4960, with a full buffer and six saved states. */
    private static VowBlocks refusing() {
        VowBlocks x = new VowBlocks();
        x.make(255, 24);
        x.put(0, 3, 0);
        Check.row(x, "1,200");
        for (int i = 2; i < 8; i++) {
            x.make(i, i == 2 ? 1 : i);
        }
        pass(x, 4950);
        x.ask(0, 2, 0);
        x.breakVow(0);
        x.put(0, 9, 77);
        x.pass(10);
        Check.type(x, "1,".repeat(30));
        return x;
    }

    private static void refusedCallsChangeNothing() {
        VowBlocks x = refusing();
        VowBlocks twin = refusing();
        for (Check.Call call : refusedCalls(x)) {
            check.same("a call is refused", answered(call), 0);
            check.same("the digest behind it", x.digest(), twin.digest());
        }
        for (int left = 5; left >= 0; left--) {
            x.undo();
            twin.undo();
            check.same("the digest behind undo", x.digest(), twin.digest());
        }
        check.same("undo of nothing is refused", answered(x::undo), 0);
        check.same("the digest behind it", x.digest(), twin.digest());
        check.same("the buffer", x.clearBuffer(), 60);
    }

    private static void firstNamed() {
        VowBlocks x = refusing();
        Class<?> index = Check.INDEX;
        Class<?> argument = Check.ARGUMENT;
        check.refuses("make: value and eight blocks", x, argument, () -> x.make(256, 1));
        check.refuses("make: many and eight blocks", x, argument, () -> x.make(0, 25));
        check.refuses("read: no row and eight blocks", x, argument, x::read);
        check.refuses("add: no block and value", x, index, () -> x.add(8, 256));
        check.refuses("add: value and 24 values", x, argument, () -> x.add(0, 256));
        check.refuses("put: no block and value", x, index, () -> x.put(8, 0, 256));
        check.refuses("put: no place and value", x, index, () -> x.put(1, 2, 256));
        check.refuses("take: no place and one value", x, index, () -> x.take(2, 1));
        check.refuses("join: no block and both the same", x, index, () -> x.join(8, 8));
        check.refuses("join: both the same and 48 values", x, argument, () -> x.join(0, 0));
        check.refuses("cut: no block and eight blocks", x, index, () -> x.cut(8, 1));
        check.refuses("cut: place 0 and eight blocks", x, index, () -> x.cut(1, 0));
        check.refuses("cut: no place and eight blocks", x, index, () -> x.cut(1, 2));
        check.refuses("pass: days and above 5000", x, argument, () -> x.pass(101));
        check.refuses("ask: no block and question", x, index, () -> x.ask(8, 3, 0));
        check.refuses("ask: no block and v", x, index, () -> x.ask(8, 0, 256));
        check.refuses("set: no setting and value", x, index, () -> x.set(2, -1));
        check.refuses("append: code and 60 characters", x, argument, () -> x.append(32));
        check.refuses("block: no block and what", x, index, () -> x.block(8, 12));
        check.refuses("cost: no block and code", x, index, () -> x.cost(8, 6));
        check.refuses("work: no block and code", x, index, () -> x.work(8, 6, 0, 0));
        check.refuses("work: no block and question", x, index, () -> x.work(8, 0, 3, 0));
        check.refuses("work: no block and v", x, index, () -> x.work(8, 0, 0, 256));
        check.refuses("regretIn: no block and days", x, index, () -> x.regretIn(8, 201));
    }
}
