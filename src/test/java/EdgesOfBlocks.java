/** The boundaries of the promises 1 to 9: a new object, make, read, add, put, take, turn, join, cut. */
final class EdgesOfBlocks {
    private static final Check check = EdgesTest.check;

    private static final String NO_BLOCK = "Throws `IndexOutOfBoundsException` if there is no such block";
    private static final String NO_PLACE = "Throws `IndexOutOfBoundsException` if there is no such block or place";
    private static final String WRONG_VALUE = "Throws `IllegalArgumentException` if value is out of range";
    private static final String EIGHT = "Throws `IllegalStateException` if there are 8 blocks";

    static void tell(Edges edges) {
        edges.of("Promise 1", "Creates a column without blocks, on the day 0, with an empty buffer.", EdgesOfBlocks::newObject);
        makeAndRead(edges);
        values(edges);
        rows(edges);
    }

    private static void makeAndRead(Edges edges) {
        edges.of("Promise 2", "`value`: 0 to 255", EdgesOfBlocks::makeValue);
        edges.of("Promise 2", "`many`: 1 to 24", EdgesOfBlocks::makeMany);
        edges.of("Promise 2", "Returns its number.", EdgesOfBlocks::makeNumber);
        edges.of("Promise 2", "Throws `IllegalArgumentException` if an argument is out of range", EdgesOfBlocks::makeRefuses);
        edges.of("Promise 2", EIGHT, EdgesOfBlocks::makeOfNine);
        edges.of("Promise 3", "Makes a block of the row in the buffer, and clears the buffer.", EdgesOfBlocks::read);
        edges.of("Promise 3", "Returns its number.", EdgesOfBlocks::readNumber);
        edges.of("Promise 3", "Throws `IllegalArgumentException` if the buffer is not a complete row", EdgesOfBlocks::readNoRow);
        edges.of("Promise 3", ", or has more than 24 values", EdgesOfBlocks::readTooMany);
        edges.of("Promise 3", EIGHT, EdgesOfBlocks::readOfNine);
    }

    private static void values(Edges edges) {
        edges.of("Promise 4", "`value`: 0 to 255", EdgesOfBlocks::addValue);
        edges.of("Promise 4", "Returns how many values it has then.", EdgesOfBlocks::addSize);
        edges.of("Promise 4", NO_BLOCK, () -> check.noSuchBlock("add", (x, block) -> x.add(block, 5)));
        edges.of("Promise 4", WRONG_VALUE, EdgesOfBlocks::addRefuses);
        edges.of("Promise 4", "Throws `IllegalStateException` if it has 24 values", EdgesOfBlocks::addToFull);
        edges.of("Promise 5", "`place`: the place of the value, from 0", EdgesOfBlocks::putPlace);
        edges.of("Promise 5", "`value`: 0 to 255", EdgesOfBlocks::putValue);
        edges.of("Promise 5", NO_PLACE, () -> check.noSuchPlace("put", (x, block, place) -> x.put(block, place, 5)));
        edges.of("Promise 5", WRONG_VALUE, EdgesOfBlocks::putRefuses);
        edges.of("Promise 6", "Takes a value out of a block; those behind it move up.", EdgesOfBlocks::takeMovesUp);
        edges.of("Promise 6", NO_PLACE, EdgesOfBlocks::takeNoPlace);
        edges.of("Promise 6", "Throws `IllegalStateException` if it has one value alone", EdgesOfBlocks::takeTheOnlyOne);
    }

    private static void rows(Edges edges) {
        edges.of("Promise 7", "Turns the row of a block around.", EdgesOfBlocks::turn);
        edges.of("Promise 7", NO_BLOCK, () -> check.noSuchBlock("turn", (x, block) -> x.turn(block)));
        edges.of("Promise 8", "the values of the other one come behind those of the one, which keeps its code and its vow",
                EdgesOfBlocks::joinKeeps);
        edges.of("Promise 8", "(its regrets, work and fines come to the one, its questions and choices do not)", EdgesOfBlocks::joinCarries);
        edges.of("Promise 8", "Returns the number of the one then.", EdgesOfBlocks::joinNumber);
        edges.of("Promise 8", NO_BLOCK, EdgesOfBlocks::joinNoBlock);
        edges.of("Promise 8", "Throws `IllegalArgumentException` if both are the same", EdgesOfBlocks::joinTheSame);
        edges.of("Promise 8", "Throws `IllegalStateException` if there would be more than 24 values", EdgesOfBlocks::joinTooMany);
        edges.of("Promise 9", "its values from a place on become a new block, behind all others; the one keeps its code and its vow.",
                EdgesOfBlocks::cutKeeps);
        edges.of("Promise 9", "`place`: the place of the first value of the new one, at least 1", EdgesOfBlocks::cutPlace);
        edges.of("Promise 9", "Returns the number of the new one.", EdgesOfBlocks::cutNumber);
        edges.of("Promise 9", "Throws `IndexOutOfBoundsException` if there is no such block, place is less than 1, or it has no such place",
                EdgesOfBlocks::cutNoPlace);
        edges.of("Promise 9", EIGHT, EdgesOfBlocks::cutOfNine);
    }

    // ---- a new object

    private static void newObject() {
        VowBlocks x = new VowBlocks();
        for (int what = 0; what <= 15; what++) {
            check.same("count(" + what + ")", x.count(what), 0);
        }
        check.same("errors in its buffer", x.firstError(), 0);
        check.same("its buffer", x.clearBuffer(), 0);
        check.refuses("its saved states", x, Check.STATE, x::undo);
        VowBlocks other = new VowBlocks();
        other.make(5, 1);
        other.append('5');
        check.same("another object does not matter", x.count(0) + x.clearBuffer() + x.count(9), 0);
    }

    // ---- make

    private static void makeValue() {
        VowBlocks x = new VowBlocks();
        x.make(0, 2);
        x.make(255, 2);
        check.rows("made", x, "0,0", "255,255");
    }

    private static void makeMany() {
        VowBlocks x = new VowBlocks();
        x.make(7, 1);
        x.make(7, 24);
        check.rows("made", x, "7", "7" + ",7".repeat(23));
    }

    private static void makeNumber() {
        VowBlocks x = new VowBlocks();
        for (int number = 0; number < 8; number++) {
            check.same("its number", x.make(7, 1), number);
        }
        x.join(0, 7);
        check.same("its number behind a join", x.make(7, 1), 7);
        x.undo();
        check.same("its number behind undo", x.make(7, 1), 7);
    }

    private static void makeRefuses() {
        VowBlocks x = new VowBlocks();
        check.range("make, value", x, Check.ARGUMENT, 0, 255, value -> x.make(value, 1));
        check.range("make, many", x, Check.ARGUMENT, 1, 24, many -> x.make(0, many));
        check.refuses("make, both", x, Check.ARGUMENT, () -> x.make(-1, 0));
    }

    private static void makeOfNine() {
        VowBlocks x = Check.with("1", "2", "3", "4", "5", "6", "7");
        check.same("the eighth", x.make(255, 24), 7);
        check.refuses("make of a ninth", x, Check.STATE, () -> x.make(255, 24));
        check.refuses("make of a small ninth", x, Check.STATE, () -> x.make(0, 1));
        x.undo();
        check.same("the eighth again", x.make(0, 1), 7);
    }

    // ---- read

    private static void read() {
        VowBlocks x = Check.with("0", "255*24", "5*1,6", "1,2,3,4,5,6,7,8,9,10,11,12,13,14,15,16,17,18,19,20,21,22*3");
        check.rows("read", x, "0", "255" + ",255".repeat(23), "5,6",
                "1,2,3,4,5,6,7,8,9,10,11,12,13,14,15,16,17,18,19,20,21,22,22,22");
        check.same("the buffer", x.clearBuffer(), 0);
        Check.type(x, "100,101,102,103,104,105,106,107,108,109,110,111,112,113*12");
        check.same("58 characters, 25 values", x.firstError(), 58);
        check.refuses("25 values", x, Check.ARGUMENT, x::read);
        x.clearBuffer();
        Check.type(x, "99,101,102,103,104,105,106,107,108,109,110,111,112,113,114*9");
        check.same("60 characters", x.firstError(), 60);
        check.same("a full buffer is read", x.read(), 4);
        check.same("23 values", x.block(4, 0), 23);
        check.same("a full buffer is cleared", x.clearBuffer(), 0);
    }

    private static void readNumber() {
        VowBlocks x = new VowBlocks();
        for (int number = 0; number < 8; number++) {
            check.same("its number", Check.row(x, "7,8"), number);
        }
    }

    private static void readNoRow() {
        String[] wrong = {"", ",", "*", "5,", "5*", "5,6,", "5,6*", "256", "05", "5*0", "5*25", "5**2", "5,,6", "5*2*2", "5;6", "x", "5x"};
        for (String text : wrong) {
            VowBlocks x = Check.with("9");
            Check.type(x, text);
            check.refuses("read of " + text, x, Check.ARGUMENT, x::read);
            check.same("the buffer is kept, " + text, x.clearBuffer(), text.length());
        }
        VowBlocks full = new VowBlocks();
        Check.type(full, "1,".repeat(30));
        check.refuses("read of a full buffer", full, Check.ARGUMENT, full::read);
    }

    private static void readTooMany() {
        String[] wrong = {"5*24,6", "5,6*24", "5*24,6*24", "1*13,2*12", "1" + ",1".repeat(24), "1" + ",1".repeat(29), "1*24,1*24,1*24,1*24,1*24,1*24"};
        for (String text : wrong) {
            VowBlocks x = Check.with("9");
            Check.type(x, text);
            check.same("no syntax error in " + text, x.firstError(), text.length());
            check.refuses("read of " + text, x, Check.ARGUMENT, x::read);
            check.same("the buffer is kept, " + text, x.clearBuffer(), text.length());
        }
        for (String text : new String[] {"5*24", "1*12,2*12", "5*23,6", "1" + ",1".repeat(23)}) {
            VowBlocks x = Check.with(text);
            check.same("24 are read of " + text, x.block(0, 0), 24);
        }
    }

    private static void readOfNine() {
        VowBlocks x = Check.with("1", "2", "3", "4", "5", "6", "7");
        Check.type(x, "8");
        check.same("the eighth", x.read(), 7);
        Check.type(x, "9");
        check.refuses("read of a ninth", x, Check.STATE, x::read);
        check.same("the buffer is kept", x.clearBuffer(), 1);
    }

    // ---- add

    private static void addValue() {
        VowBlocks x = Check.with("7");
        x.add(0, 0);
        x.add(0, 255);
        check.rows("added", x, "7,0,255");
    }

    private static void addSize() {
        VowBlocks x = Check.with("7", "8*20");
        for (int size = 2; size <= 24; size++) {
            check.same("its values", x.add(0, size), size);
        }
        check.same("the values of another", x.add(1, 0), 21);
    }

    private static void addRefuses() {
        VowBlocks x = Check.with("7");
        check.range("add", x, Check.ARGUMENT, 0, 255, value -> x.add(0, value));
    }

    private static void addToFull() {
        VowBlocks x = Check.with("7*23", "8*24");
        check.same("the 24th", x.add(0, 1), 24);
        check.refuses("a 25th", x, Check.STATE, () -> x.add(0, 1));
        check.refuses("a 25th to another", x, Check.STATE, () -> x.add(1, 1));
        x.take(0, 0);
        check.same("the 24th again", x.add(0, 2), 24);
    }

    // ---- put

    private static void putPlace() {
        VowBlocks x = Check.with("7", "1,2,3", "5*23,6");
        check.same("the only place", x.put(0, 0, 70), 7);
        check.same("the first place", x.put(1, 0, 10), 1);
        check.same("the last place", x.put(1, 2, 30), 3);
        check.same("the last place of all", x.put(2, 23, 60), 6);
        check.rows("put", x, "70", "10,2,30", "5," + "5,".repeat(22) + "60");
    }

    private static void putValue() {
        VowBlocks x = Check.with("7,7");
        check.same("0", x.put(0, 0, 0), 7);
        check.same("255", x.put(0, 1, 255), 7);
        check.same("255 behind 0", x.put(0, 0, 255), 0);
        check.same("0 behind 255", x.put(0, 1, 0), 255);
        check.rows("put", x, "255,0");
    }

    private static void putRefuses() {
        VowBlocks x = Check.with("7,8");
        check.range("put", x, Check.ARGUMENT, 0, 255, value -> x.put(0, 1, value));
    }

    // ---- take

    private static void takeMovesUp() {
        VowBlocks x = Check.with("1,2,3,4,5", "6*23,7", "7,6*23");
        check.same("the first", x.take(0, 0), 1);
        check.rows("taken", x, "2,3,4,5", "6" + ",6".repeat(22) + ",7", "7" + ",6".repeat(23));
        check.same("the last", x.take(0, 3), 5);
        check.same("one within", x.take(0, 1), 3);
        check.same("the last of 24", x.take(1, 23), 7);
        check.same("the first of 24", x.take(2, 0), 7);
        check.rows("taken", x, "2,4", "6" + ",6".repeat(22), "6" + ",6".repeat(22));
        check.same("one of two", x.take(0, 1), 4);
        check.same("the one that is left", x.value(0, 0), 2);
    }

    private static void takeNoPlace() {
        check.noSuchPlace("take", (x, block, place) -> x.take(block, place));
        VowBlocks one = Check.with("5");
        check.refuses("a second place of one", one, Check.INDEX, () -> one.take(0, 1));
        check.refuses("a place ahead of one", one, Check.INDEX, () -> one.take(0, -1));
    }

    private static void takeTheOnlyOne() {
        VowBlocks x = Check.with("5", "6,7");
        check.refuses("the only one", x, Check.STATE, () -> x.take(0, 0));
        check.same("one of two", x.take(1, 0), 6);
        check.refuses("the one that is left", x, Check.STATE, () -> x.take(1, 0));
    }

    // ---- turn

    private static void turn() {
        VowBlocks x = Check.with("5", "1,2", "1,2,3", "9*2,1*21,8");
        check.same("one value", x.turn(0), 5);
        check.same("two values", x.turn(1), 2);
        check.same("three values", x.turn(2), 3);
        check.same("24 values", x.turn(3), 8);
        check.rows("turned", x, "5", "2,1", "3,2,1", "8" + ",1".repeat(21) + ",9,9");
        check.same("turned again", x.turn(2), 1);
        check.same("the vow is kept", x.block(2, 11), 1);
        VowBlocks many = EdgesOfCodes.different();
        check.same("24 different values", many.turn(0), 230);
        for (int place = 0; place < 24; place++) {
            check.same("the value at " + place, many.value(0, place), 230 - 10 * place);
        }
    }

    // ---- join

    private static void joinKeeps() {
        VowBlocks x = Check.with("9,8,7,6,5");
        x.pass(6);
        Check.row(x, "200*3");
        x.join(0, 1);
        check.rows("behind those of the one", x, "9,8,7,6,5,200,200,200");
        check.same("its code", x.block(0, 1), 3);
        check.same("its vow", x.block(0, 3), 0);
        VowBlocks y = Check.with("200*3");
        y.pass(6);
        Check.row(y, "9,8,7,6,5");
        y.join(1, 0);
        check.rows("behind those of the one, with a lower number", y, "9,8,7,6,5,200,200,200");
        check.same("its code", y.block(0, 1), 3);
        check.same("its vow", y.block(0, 3), 6);
    }

    /** Two blocks of which each has regrets, work, fines, questions and choices. */
    private static VowBlocks lived() {
        VowBlocks x = Check.with("9,8,7,6,5", "200,201");
        x.put(0, 1, 90);
        x.put(1, 0, 0);
        x.add(1, 0);
        x.pass(3);
        x.ask(0, 1, 0);
        x.ask(1, 0, 3);
        x.ask(1, 2, 3);
        x.breakVow(0);
        x.breakVow(0);
        x.breakVow(1);
        return x;
    }

    private static void joinCarries() {
        for (int one = 0; one < 2; one++) {
            VowBlocks x = lived();
            int other = 1 - one;
            int[] own = new int[12];
            int[] others = new int[12];
            for (int what = 0; what < 12; what++) {
                own[what] = x.block(one, what);
                others[what] = x.block(other, what);
            }
            x.join(one, other);
            for (int what : new int[] {4, 5, 7}) {
                check.holds("there is something to come, " + what, others[what] > 0 && own[what] > 0);
                check.same("comes to the one, " + what, x.block(0, what), own[what] + others[what]);
            }
            check.same("questions do not", x.block(0, 6), own[6]);
            check.same("choices do not", x.block(0, 11), own[11]);
        }
    }

    private static void joinNumber() {
        for (int one = 0; one < 8; one++) {
            for (int other = 0; other < 8; other++) {
                VowBlocks x = Check.with("10", "11", "12", "13", "14", "15", "16", "17");
                if (one != other) {
                    int number = x.join(one, other);
                    check.same("the number of " + one + " joined with " + other, number, one > other ? one - 1 : one);
                    check.same("the first value there", x.value(number, 0), 10 + one);
                }
            }
        }
    }

    private static void joinNoBlock() {
        check.noSuchBlock("join, the one", (x, block) -> x.join(block, block == 0 ? 1 : 0));
        check.noSuchBlock("join, the other one", (x, block) -> x.join(block == 0 ? 1 : 0, block));
        check.noSuchBlock("join, both", (x, block) -> block < 0 || block >= x.count(0) ? x.join(block, block) : 0);
    }

    private static void joinTheSame() {
        VowBlocks x = EdgesOfTerms.eight();
        for (int number = 0; number < 8; number++) {
            int same = number;
            check.refuses("join with itself, " + number, x, Check.ARGUMENT, () -> x.join(same, same));
        }
        VowBlocks alike = Check.with("5,6", "5,6");
        check.same("join with a row that is alike", alike.join(1, 0), 0);
    }

    private static void joinTooMany() {
        VowBlocks x = Check.with("1*12", "2*13", "3*12", "4*24", "5");
        check.refuses("12 and 13", x, Check.STATE, () -> x.join(0, 1));
        check.refuses("13 and 12", x, Check.STATE, () -> x.join(1, 2));
        check.refuses("24 and 1", x, Check.STATE, () -> x.join(3, 4));
        check.refuses("1 and 24", x, Check.STATE, () -> x.join(4, 3));
        check.refuses("24 and 12", x, Check.STATE, () -> x.join(3, 0));
        check.same("12 and 12", x.join(0, 2), 0);
        check.same("24 values", x.block(0, 0), 24);
    }

    // ---- cut

    private static void cutKeeps() {
        VowBlocks x = Check.with("9,8,7,6,5,4", "50");
        x.put(0, 2, 200);
        x.pass(3);
        x.ask(0, 1, 0);
        int regrets = x.block(0, 4);
        int work = x.block(0, 5);
        check.same("cut", x.cut(0, 3), 2);
        check.rows("behind all others", x, "9,8,200", "50", "6,5,4");
        check.same("its code", x.block(0, 1), 3);
        check.same("its vow", x.block(0, 3), 0);
        check.same("its regrets", x.block(0, 4), regrets);
        check.same("its work", x.block(0, 5), work);
        check.same("its questions", x.block(0, 6), 1);
        check.same("the vow of the new one", x.block(2, 3), 3);
        for (int what = 4; what <= 7; what++) {
            check.same("the new one has nothing of " + what, x.block(2, what), 0);
        }
        check.same("the choices of the new one", x.block(2, 11), 1);
    }

    private static void cutPlace() {
        VowBlocks x = Check.with("1,2,3", "5,6", "7*23,8");
        x.cut(0, 1);
        x.cut(1, 1);
        x.cut(2, 23);
        check.rows("cut", x, "1", "5", "7" + ",7".repeat(22), "2,3", "6", "8");
        x.cut(2, 1);
        check.rows("cut at 1", x, "1", "5", "7", "2,3", "6", "8", "7" + ",7".repeat(21));
    }

    private static void cutNumber() {
        VowBlocks x = Check.with("1,2,3,4,5,6,7,8");
        for (int number = 1; number < 8; number++) {
            check.same("its number", x.cut(0, 8 - number), number);
        }
        check.rows("cut", x, "1", "8", "7", "6", "5", "4", "3", "2");
    }

    private static void cutNoPlace() {
        check.noSuchPlace("cut", (x, block, place) -> x.cut(block, place));
        VowBlocks x = Check.with("1,2,3");
        check.refuses("place 0", x, Check.INDEX, () -> x.cut(0, 0));
        check.refuses("place -1", x, Check.INDEX, () -> x.cut(0, -1));
        check.refuses("place 3", x, Check.INDEX, () -> x.cut(0, 3));
        VowBlocks one = Check.with("1");
        check.refuses("place 0 of one", one, Check.INDEX, () -> one.cut(0, 0));
        check.refuses("place 1 of one", one, Check.INDEX, () -> one.cut(0, 1));
    }

    private static void cutOfNine() {
        VowBlocks x = Check.with("1,2,3", "2", "3", "4", "5", "6", "7");
        check.same("the eighth", x.cut(0, 1), 7);
        check.refuses("cut of a ninth", x, Check.STATE, () -> x.cut(7, 1));
        x.join(1, 2);
        check.same("the eighth again", x.cut(6, 1), 7);
    }
}
