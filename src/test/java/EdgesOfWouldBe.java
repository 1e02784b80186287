import java.math.BigInteger;

/** The boundaries of the promises 22 to 29: cost, work, regretIn, gain, cheapest, mate, meanBits, digest. */
final class EdgesOfWouldBe {
    private static final Check check = EdgesTest.check;

    private static final String NO_BLOCK = "Throws `IndexOutOfBoundsException` if there is no such block";

    static void tell(Edges edges) {
        costAndWork(edges);
        days(edges);
        edges.of("Promise 26", "the block would cost least by its code", EdgesOfWouldBe::cheapest);
        edges.of("Promise 26", "of several the lowest one.", EdgesOfWouldBe::cheapestOfSeveral);
        edges.of("Promise 26", "Throws `IndexOutOfBoundsException` if there is no such block or place",
                () -> check.noSuchPlace("cheapest", (x, block, place) -> x.cheapest(block, place)));
        edges.of("Promise 27", "would cost fewest bits more by its code than now", EdgesOfWouldBe::mate);
        edges.of("Promise 27", "of several the lowest number", EdgesOfWouldBe::mateOfSeveral);
        edges.of("Promise 27", "NONE if none can be joined.", EdgesOfWouldBe::noMate);
        edges.of("Promise 27", NO_BLOCK, () -> check.noSuchBlock("mate", (x, block) -> x.mate(block)));
        edges.of("Promise 28", "Returns count(3), as a double, divided by count(2)", EdgesOfWouldBe::meanBits);
        edges.of("Promise 28", "0.0 if that is 0.", EdgesOfWouldBe::meanBitsOfNothing);
        edges.of("Promise 29", "The hash starts at 2441.", EdgesOfWouldBe::digestOfNothing);
        edges.of("Promise 29", "in long arithmetic with overflow.", EdgesOfWouldBe::digestOverflows);
        edges.of("Promise 29", "the bits of meanBits (as Double.doubleToLongBits)", EdgesOfWouldBe::digestOfMeanBits);
        edges.of("Promise 29", "the length of the buffer and each of its character codes.", EdgesOfWouldBe::digestOfBuffers);
    }

    private static void costAndWork(Edges edges) {
        edges.of("Promise 22", "`code`: 0 to 5", EdgesOfWouldBe::costs);
        edges.of("Promise 22", NO_BLOCK, () -> check.noSuchBlock("cost", (x, block) -> x.cost(block, 5)));
        edges.of("Promise 22", "Throws `IllegalArgumentException` if code is out of range", EdgesOfWouldBe::costRefuses);
        edges.of("Promise 23", "`code`: 0 to 5", EdgesOfWouldBe::worksByCode);
        edges.of("Promise 23", "`question`: 0 to 2", EdgesOfWouldBe::worksByQuestion);
        edges.of("Promise 23", "`v`: 0 to 255", EdgesOfWouldBe::worksByValue);
        edges.of("Promise 23", NO_BLOCK, () -> check.noSuchBlock("work", (x, block) -> x.work(block, 5, 2, 255)));
        edges.of("Promise 23", "Throws `IllegalArgumentException` if another argument is out of range", EdgesOfWouldBe::workRefuses);
    }

    private static void days(Edges edges) {
        edges.of("Promise 24", "`days`: 0 to 200", EdgesOfWouldBe::noDaysAndMany);
        edges.of("Promise 24", "Returns the bits that it would regret in the next days, if nothing else was done.",
                EdgesOfWouldBe::regretAcrossChoices);
        edges.of("Promise 24", NO_BLOCK, () -> check.noSuchBlock("regretIn", (x, block) -> x.regretIn(block, 200)));
        edges.of("Promise 24", "Throws `IllegalArgumentException` if days is out of range", EdgesOfWouldBe::regretInRefuses);
        edges.of("Promise 25", "Returns what the block would regret in the days that are left of its vow", EdgesOfWouldBe::gain);
        edges.of("Promise 25", "(regretIn of so many days, as told for breakVow, 200 at most), less the fine.", EdgesOfWouldBe::gainOfLongYears);
        edges.of("Promise 25", NO_BLOCK, () -> check.noSuchBlock("gain", (x, block) -> x.gain(block)));
    }

    // ---- cost, work

    private static void costs() {
        VowBlocks x = EdgesOfTerms.regretful();
        int[] due = {192, 26, 5 + 16 + 24, 12 + 23 * 9, 8 + 24 + 8, 12 + 24 * 8};
        for (int code = 0; code < 6; code++) {
            check.same("cost by " + code, x.cost(0, code), due[code]);
        }
    }

    private static void costRefuses() {
        VowBlocks x = Check.with("5");
        check.range("cost", x, Check.ARGUMENT, 0, 5, code -> x.cost(0, code));
    }

    private static void worksByCode() {
        VowBlocks x = EdgesOfTerms.regretful();
        int[] due = {24, 2, 26, 24, 2, 24};
        for (int code = 0; code < 6; code++) {
            check.same("work by " + code, x.work(0, code, 0, 0), due[code]);
        }
    }

    private static void worksByQuestion() {
        VowBlocks x = EdgesOfTerms.regretful();
        int[] due = {26, 26, 3};
        for (int question = 0; question < 3; question++) {
            check.same("work of " + question, x.work(0, 2, question, 255), due[question]);
        }
        check.same("nothing is asked", x.block(0, 6) + x.block(0, 5) + x.count(6), 0);
    }

    private static void worksByValue() {
        VowBlocks x = Check.with("0,7,255");
        check.same("0", x.work(0, 0, 2, 0), 1);
        check.same("255", x.work(0, 0, 2, 255), 3);
        check.same("0 by table", x.work(0, 2, 0, 0), 6);
        check.same("255 by table", x.work(0, 2, 0, 255), 6);
        check.same("0 by frame", x.work(0, 5, 0, 0), 3);
        check.same("255 by frame", x.work(0, 5, 0, 255), 3);
    }

    private static void workRefuses() {
        VowBlocks x = Check.with("5");
        check.range("work, code", x, Check.ARGUMENT, 0, 5, code -> x.work(0, code, 0, 0));
        for (int i = 0; i < 6; i++) {
            int code = i;
            check.range("work by " + code + ", question", x, Check.ARGUMENT, 0, 2, question -> x.work(0, code, question, 0));
        }
        for (int i = 0; i < 3; i++) {
            int question = i;
            check.range("work of " + question + ", v", x, Check.ARGUMENT, 0, 255, v -> x.work(0, 0, question, v));
        }
    }

    // ---- regretIn, gain

    private static void noDaysAndMany() {
        VowBlocks x = EdgesOfTerms.regretful();
        check.same("no day", x.regretIn(0, 0), 0);
        check.same("a day", x.regretIn(0, 1), 193);
        x.set(0, 400);
        check.same("200 days", x.regretIn(0, 200), 200 * 193);
        check.same("199 days", x.regretIn(0, 199), 199 * 193);
        VowBlocks steady = Check.with("5*24");
        check.same("no regrets", steady.regretIn(0, 200), 0);
    }

    private static void regretAcrossChoices() {
        for (int year : new int[] {1, 2, 30, 199, 200}) {
            VowBlocks x = EdgesOfTerms.regretful();
            x.set(0, year);
            check.same("all but a day of " + year, x.regretIn(0, year - 1), (year - 1) * 193);
            check.same("a year of " + year, x.regretIn(0, year), year * 193);
            check.same("a day more than " + year, x.regretIn(0, Math.min(year + 1, 200)), year * 193);
            check.same("200 days with a year of " + year, x.regretIn(0, 200), year * 193);
        }
        VowBlocks late = EdgesOfTerms.regretful();
        late.pass(29);
        check.same("the last day of the year", late.regretIn(0, 200), 193);
        late.set(0, 29);
        check.same("no day is left: the next one regrets", late.regretIn(0, 200), 193);
        late.set(0, 1);
        check.same("less than none: the next one regrets", late.regretIn(0, 1), 193);
        check.same("less than none, in no day", late.regretIn(0, 0), 0);
        check.same("just so", late.pass(100), 193);
        check.same("nothing behind the choice", late.regretIn(0, 200), 0);
    }

    private static void regretInRefuses() {
        VowBlocks x = Check.with("5");
        check.range("regretIn", x, Check.ARGUMENT, 0, 200, days -> x.regretIn(0, days));
    }

    private static void gain() {
        VowBlocks x = EdgesOfTerms.regretful();
        check.same("a whole year", x.gain(0), 30 * 193 - 120);
        x.pass(29);
        check.same("a day is left", x.gain(0), 193 - 4);
        x.set(0, 29);
        check.same("no day is left", x.gain(0), 0);
        x.set(0, 1);
        check.same("less than none", x.gain(0), 0);
        x.set(0, 30);
        x.set(1, 100);
        check.same("the greatest fine", x.gain(0), 93);
        x.set(1, 0);
        check.same("no fine", x.gain(0), 193);
        x.breakVow(0);
        check.same("nothing at all", x.gain(0), 0);
        x.set(1, 4);
        check.same("only a fine", x.gain(0), -120);
    }

    private static void gainOfLongYears() {
        VowBlocks x = EdgesOfTerms.regretful();
        int[] years = {199, 200, 201, 400};
        int[] days = {199, 200, 200, 200};
        for (int i = 0; i < years.length; i++) {
            x.set(0, years[i]);
            check.same("a year of " + years[i], x.gain(0), days[i] * 193 - 4 * years[i]);
            check.same("as regretIn less the fine", x.gain(0), x.regretIn(0, days[i]) - 4 * years[i]);
        }
        x.set(1, 100);
        check.same("the fine for 400 days", x.gain(0), 38600 - 40000);
    }

    // ---- cheapest, mate

    private static void cheapest(String row, int place, int due) {
        check.same("the cheapest at " + place + " of " + row, Check.with(row).cheapest(0, place), due);
    }

    private static void cheapest() {
        cheapest("255*24", 0, 255);
        cheapest("255*24", 23, 255);
        cheapest("5*9,1*9", 7, 5);
        cheapest("5*9,1*9", 17, 1);
        cheapest("10,11,12,13,14,15,16", 3, 13);
        cheapest("255*12,254*12", 0, 255);
        VowBlocks kept = EdgesOfTerms.regretful();
        check.same("by its code, not by the best one", kept.cheapest(0, 23), 255);
        check.same("nothing is changed", kept.value(0, 23), 0);
        cheapest("7*9,8,7*3,200", 13, 7);
        VowBlocks plain = Check.with("5");
        VowBlocks common = Check.with("7*3");
        for (int v = 6; v > 0; v--) {
            plain.add(0, 5);
            common.add(0, v);
        }
        check.same("by plain, though equal values would be best", plain.cheapest(0, 0), 0);
        check.same("by common, though steps would be best", common.cheapest(0, 0), 7);
    }

    private static void cheapestOfSeveral() {
        cheapest("5", 0, 0);
        cheapest("255", 0, 0);
        cheapest("5*24", 0, 5);
        cheapest("5*9,1*9", 8, 1);
        cheapest("9,14,12,8,15,10,13,11,8,9", 0, 8);
        cheapest("9,14,12,8,15,10,13,11,8,9", 4, 7);
        cheapest("10,11,12,13,14,15,16", 6, 13);
        cheapest("10,11,12,13,14,15,16", 0, 10);
        VowBlocks runs = Check.with("5*9,1*9");
        runs.put(0, 8, 77);
        check.same("two runs to choose from", runs.cheapest(0, 8), 1);
        VowBlocks table = Check.with("1,255,1,255,0*4");
        check.same("three values of a table", table.cheapest(0, 0), 0);
    }

    private static void mates(int block, int due, String... rows) {
        check.same("the mate of " + block, Check.with(rows).mate(block), due);
    }

    private static void mate() {
        mates(0, 2, "5*20", "5,6,5,6", "5*4");
        mates(0, 2, "3,4,5,6,7,8", "8,9,7,8", "9");
        mates(0, 2, "1,2,3,4", "9,8,7,6", "5,6,7,8");
        mates(1, 0, "5", "5*3", "9,9");
        mates(7, 3, "10,11", "12,13", "14,15", "7", "16,17", "18,19", "20,21", "7*9");
        mates(0, 1, "5", "1,9", "5*3");
        mates(0, 2, "5*20", "9,5", "5,5");
        mates(0, 2, "5*20", "5,9", "5,5");
        VowBlocks kept = Check.with("5*4", "5", "1,9");
        kept.put(0, 1, 200);
        check.same("by its code, not by the best one", kept.block(0, 1), 3);
        check.same("fewest by steps", kept.mate(0), 1);
    }

    private static void mateOfSeveral() {
        mates(0, 1, "5*20", "5", "5", "5");
        mates(1, 0, "5", "5*20", "5", "5");
        mates(3, 0, "5", "5", "5", "5*20");
        mates(2, 0, "5,6", "5,6", "5,6");
        mates(0, 2, "5*20", "9,9,9", "5,5,5", "5,5,5");
        mates(0, 1, "9", "5,6", "7,8");
    }

    private static void noMate() {
        mates(0, VowBlocks.NONE, "5");
        mates(0, VowBlocks.NONE, "5*24");
        mates(0, VowBlocks.NONE, "5*24", "5");
        mates(1, VowBlocks.NONE, "5*24", "5");
        mates(0, VowBlocks.NONE, "5*12", "5*13", "5*24");
        mates(0, 1, "5*12", "5*12");
        mates(0, 2, "5*23", "5,5", "200");
        mates(0, 7, "1*20", "1*5", "1*5", "1*5", "1*5", "1*5", "1*5", "99*4");
    }

    // ---- meanBits, digest

    private static void meanBits() {
        VowBlocks x = Check.with("5*24");
        check.holds("12 bits of 24 values", x.meanBits() == 0.5);
        x.take(0, 0);
        check.holds("12 bits of 23 values", x.meanBits() == 12.0 / 23);
        Check.row(x, "9");
        check.holds("20 bits of 24 values", x.meanBits() == 20.0 / 24);
        VowBlocks one = Check.with("9");
        check.holds("8 bits of one value", one.meanBits() == 8.0);
        VowBlocks kept = EdgesOfTerms.regretful();
        check.holds("by its code, not by the best one", kept.meanBits() == 219.0 / 24);
    }

    private static void meanBitsOfNothing() {
        VowBlocks x = new VowBlocks();
        check.same("the bits of 0.0", Double.doubleToRawLongBits(x.meanBits()), 0);
        x.make(5, 1);
        x.undo();
        check.same("the bits of 0.0 behind undo", Double.doubleToRawLongBits(x.meanBits()), 0);
    }

    private static void digestOfNothing() {
        BigInteger due = BigInteger.valueOf(2441);
        int[] list = {0, 0, 0, 0, 0, 0, 0, 0, 0, 0, 0, 0, 0, 0, 0, 0, 30, 4, 0, 0};
        for (int v : list) {
            due = due.multiply(BigInteger.valueOf(31)).add(BigInteger.valueOf(v));
        }
        check.same("the digest", new VowBlocks().digest(), due.longValue());
    }

    private static void digestOverflows() {
        boolean negative = false;
        boolean positive = false;
        for (int blocks = 1; blocks <= 8; blocks++) {
            VowBlocks x = new VowBlocks();
            for (int i = 0; i < blocks; i++) {
                x.make(255 - i, 3);
                x.put(i, i % 3, 0);
            }
            long digest = x.digest();
            check.same("the digest of " + blocks + " blocks", digest, WouldBeTest.fromTheFace(x, ""));
            negative |= digest < 0;
            positive |= digest > 0;
        }
        check.holds("of either sign", negative && positive);
        VowBlocks x = EdgesOfTerms.regretful();
        x.set(0, 400);
        x.set(1, 100);
        check.holds("there is a negative gain", x.gain(0) < 0);
        check.same("the digest of a negative gain", x.digest(), WouldBeTest.fromTheFace(x, ""));
    }

    private static void digestOfMeanBits() {
        String[] rows = {"5*24", "5*23", "9", "5*9,1*9", "0,255", "0,90,180,20,110,200,40,0", "200*7", "1,2,3", "5*22", "6*7,5*8"};
        for (String row : rows) {
            VowBlocks x = Check.with(row);
            check.same("the digest of " + row, x.digest(), WouldBeTest.fromTheFace(x, ""));
        }
        VowBlocks most = Check.with("0*2");
        most.put(0, 1, 255);
        check.holds("more than 8 bits a value", most.meanBits() > 8.0);
        check.same("the digest of it", most.digest(), WouldBeTest.fromTheFace(most, ""));
    }

    private static void digestOfBuffers() {
        String signs = "!~5,*" + "0123456789".repeat(5) + "xyz:;";
        for (int length : new int[] {0, 1, 2, 5, 59, 60}) {
            VowBlocks x = Check.with("5");
            String text = signs.substring(0, length);
            Check.type(x, text);
            check.same("a buffer of " + length, x.digest(), WouldBeTest.fromTheFace(x, text));
            x.clearBuffer();
            check.same("a cleared buffer", x.digest(), WouldBeTest.fromTheFace(x, ""));
        }
    }
}
