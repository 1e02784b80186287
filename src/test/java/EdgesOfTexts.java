/** The boundaries of rows as texts, and of the promises 14 to 17: append, clearBuffer, firstError, undo. */
final class EdgesOfTexts {
    private static final Check check = EdgesTest.check;

    static void tell(Edges edges) {
        edges.of("Input text", "The buffer has at most 60 characters.", EdgesOfTexts::sixty);
        edges.of("Input text", "A row as a text consists of one or more parts separated by \",\"", EdgesOfTexts::parts);
        edges.of("Input text", "each one a value, 0 to 255", EdgesOfTexts::values);
        edges.of("Input text", "and perhaps \"*\" and a number, 1 to 24", EdgesOfTexts::times);
        edges.of("Input text", "(so many of it one behind another)", EdgesOfTexts::soMany);
        edges.of("Input text", "Numbers are without leading zeros.", EdgesOfTexts::leadingZeros);
        edges.of("Input text", "The buffer is read from left to right", EdgesOfTexts::leftToRight);
        edges.of("Input text", "a character is a syntax error if no row, of any length, begins with the characters before it and this character.",
                EdgesOfTexts::everySign);
        edges.of("Input text", "(How many values it has is no matter of syntax.)", EdgesOfTexts::manyValues);
        edges.of("Promise 14", "`code`: the character code, 33 to 126", EdgesOfTexts::codes);
        edges.of("Promise 14", "Returns the new length of the buffer.", EdgesOfTexts::newLength);
        edges.of("Promise 14", "Throws `IllegalArgumentException` if code is not 33 to 126", EdgesOfTexts::appendRefuses);
        edges.of("Promise 14", "Throws `IllegalStateException` if the buffer has 60 characters", EdgesOfTexts::appendToFull);
        edges.of("Promise 15", "Returns the length that it had.", EdgesOfTexts::clearBuffer);
        edges.of("Promise 16", "Returns the index of the first character that is a syntax error", EdgesOfTexts::firstError);
        edges.of("Promise 16", "the length of the buffer if there is none.", EdgesOfTexts::noError);
        edges.of("Promise 17", "Restores the latest saved state, and drops it.", EdgesOfTexts::undo);
        edges.of("Promise 17", "Returns how many saved states are left.", EdgesOfTexts::statesLeft);
        edges.of("Promise 17", "Throws `IllegalStateException` if there is none", EdgesOfTexts::undoOfNothing);
    }

    private static VowBlocks typed(String text) {
        VowBlocks x = new VowBlocks();
        Check.type(x, text);
        return x;
    }

    private static void error(String text, int due) {
        VowBlocks x = typed(text);
        check.same("firstError of " + text, x.firstError(), due);
        check.same("the length behind it, " + text, x.clearBuffer(), text.length());
    }

    private static void right(String text) {
        error(text, text.length());
    }

    // ---- rows as texts

    private static void sixty() {
        VowBlocks x = typed("1,".repeat(29) + "7");
        check.same("the 60th", x.append('8'), 60);
        check.refuses("a 61st", x, Check.STATE, () -> x.append('9'));
        check.same("all of them are read", x.firstError(), 60);
        check.same("60 are cleared", x.clearBuffer(), 60);
        check.same("the first again", x.append('9'), 1);
    }

    private static void parts() {
        VowBlocks x = Check.with("7", "7,8", "1,2,3,4,5,6,7,8,9,1,2,3,4,5,6,7,8,9,1,2,3,4,5,6", "7*2,8", "7,8*2");
        check.rows("parts", x, "7", "7,8", "1,2,3,4,5,6,7,8,9,1,2,3,4,5,6,7,8,9,1,2,3,4,5,6", "7,7,8", "7,8,8");
        for (String text : new String[] {"", "7,", "7,8,", "7*2,"}) {
            VowBlocks open = typed(text);
            check.refuses("a part is missing, " + text, open, Check.ARGUMENT, open::read);
        }
        error(",", 0);
        error(",7", 0);
        error("7,,8", 2);
        error("7;8", 1);
        error("7.8", 1);
    }

    private static void values() {
        for (int v = 0; v <= 255; v++) {
            VowBlocks x = Check.with("" + v);
            check.same("the value", x.value(0, 0), v);
        }
        error("256", 2);
        error("259", 2);
        error("260", 2);
        error("300", 2);
        error("999", 2);
        error("2550", 3);
        error("1000", 3);
        error("7,256", 4);
        error("255,256", 6);
        error("256,7", 2);
        right("25");
        right("26");
        right("99");
        right("249");
        right("255");
        error("-1", 0);
    }

    private static void times() {
        for (int many = 1; many <= 24; many++) {
            VowBlocks x = Check.with("7*" + many);
            check.same("so many", x.block(0, 0), many);
        }
        error("7*0", 2);
        error("7*25", 3);
        error("7*29", 3);
        error("7*30", 3);
        error("7*99", 3);
        error("7*240", 4);
        error("7*100", 4);
        error("7*10*", 4);
        error("7**", 2);
        error("7*,", 2);
        error("*7", 0);
        error("7,*", 2);
        error("7*-1", 2);
        right("7*");
        right("7*3");
        right("7*24");
        VowBlocks open = typed("7*");
        check.refuses("a number is missing", open, Check.ARGUMENT, open::read);
    }

    private static void soMany() {
        VowBlocks x = Check.with("7*1", "7*3", "0*24", "1,7*2,3", "255*2,255*3");
        check.rows("so many", x, "7", "7,7,7", "0" + ",0".repeat(23), "1,7,7,3", "255,255,255,255,255");
    }

    private static void leadingZeros() {
        right("0");
        right("0,0");
        right("0*2");
        right("100");
        right("7*10");
        right("7*20");
        error("00", 1);
        error("01", 1);
        error("007", 1);
        error("7,01", 3);
        error("7*01", 2);
        error("7*0", 2);
        error("7*2,00", 5);
        VowBlocks x = typed("07");
        check.refuses("read of a leading zero", x, Check.ARGUMENT, x::read);
    }

    private static void leftToRight() {
        error("x7", 0);
        error("7x", 1);
        error("256,x", 2);
        error("1,x,256", 2);
        error("0*25,256", 3);
        error("1,".repeat(29) + "x1", 58);
        error("x".repeat(60), 0);
    }

    private static void everySign() {
        String digits = "0123456789";
        String[] starts = {"", "0", "1", "2", "7", "24", "25", "26", "99", "100", "255", "7*", "7*1", "7*2", "7*3", "7*10", "7*24", "7,", "7*2,"};
        String[] next = {digits, ",*", digits + ",*", digits + ",*", digits + ",*", digits + ",*", "012345,*", ",*", ",*", ",*", ",*",
            "123456789", digits + ",", "01234,", ",", ",", ",", digits, digits};
        for (int i = 0; i < starts.length; i++) {
            for (char sign = 33; sign < 127; sign++) {
                int due = starts[i].length() + (next[i].indexOf(sign) >= 0 ? 1 : 0);
                error(starts[i] + sign, due);
            }
        }
    }

    private static void manyValues() {
        String[] texts = {"7*24,8", "7*24,7*24,7*24", "7*24,", "1,".repeat(29) + "1", "1,".repeat(30), "7*24,8*", "1*13,1*12"};
        for (String text : texts) {
            right(text);
        }
        VowBlocks x = typed("7*24,8");
        check.refuses("yet they are not read", x, Check.ARGUMENT, x::read);
        error("7*24,7*25", 8);
        error("7*24,7*24,x", 10);
    }

    // ---- append, clearBuffer, firstError

    private static void codes() {
        VowBlocks x = new VowBlocks();
        check.same("33", x.append(33), 1);
        check.same("126", x.append(126), 2);
        // The digest tells the codes that are kept.
        long least = digestOf(33);
        check.same("the code 34", digestOf(34) - least, 1);
        check.same("the code 126", digestOf(126) - least, 93);
    }

    private static long digestOf(int code) {
        VowBlocks x = new VowBlocks();
        x.append(code);
        return x.digest();
    }

    private static void newLength() {
        VowBlocks x = new VowBlocks();
        for (int length = 1; length <= 60; length++) {
            check.same("the length", x.append('x'), length);
        }
        x.clearBuffer();
        check.same("the length behind clearBuffer", x.append('x'), 1);
        x.clearBuffer();
        Check.row(x, "5");
        check.same("the length behind read", x.append('x'), 1);
    }

    private static void appendRefuses() {
        VowBlocks x = new VowBlocks();
        check.range("append", x, Check.ARGUMENT, 33, 126, code -> x.append(code));
        check.refuses("append of 0", x, Check.ARGUMENT, () -> x.append(0));
        check.refuses("append of -1", x, Check.ARGUMENT, () -> x.append(-1));
        check.refuses("append of '5' and 256", x, Check.ARGUMENT, () -> x.append('5' + 256));
    }

    private static void appendToFull() {
        VowBlocks x = typed("7".repeat(59));
        check.same("the 60th", x.append('~'), 60);
        check.refuses("a 61st", x, Check.STATE, () -> x.append('7'));
        check.refuses("a 61st that is an error", x, Check.STATE, () -> x.append('!'));
        check.same("60 are kept", x.clearBuffer(), 60);
    }

    private static void clearBuffer() {
        VowBlocks x = new VowBlocks();
        check.same("nothing", x.clearBuffer(), 0);
        x.append('x');
        check.same("one", x.clearBuffer(), 1);
        check.same("nothing again", x.clearBuffer(), 0);
        Check.type(x, "7".repeat(60));
        check.same("60", x.clearBuffer(), 60);
        check.same("nothing is left", x.firstError(), 0);
        check.same("nothing again", x.clearBuffer(), 0);
    }

    private static void firstError() {
        error("x", 0);
        error("7x", 1);
        error("1,".repeat(29) + "1x", 59);
        error("1,".repeat(29) + "01", 59);
        error("x".repeat(60), 0);
        VowBlocks x = typed("7,x");
        x.clearBuffer();
        Check.type(x, "7");
        check.same("what was cleared is no error", x.firstError(), 1);
    }

    private static void noError() {
        right("");
        right("7");
        right("7,");
        right("1,".repeat(30));
        right("1,".repeat(29) + "12");
        VowBlocks x = typed("7*2");
        for (int i = 0; i < 3; i++) {
            check.same("asked again", x.firstError(), 3);
        }
        check.same("read behind it", x.read(), 0);
        check.same("an empty one behind read", x.firstError(), 0);
    }

    // ---- undo

    private static void undo() {
        VowBlocks x = new VowBlocks();
        for (int fine = 10; fine < 20; fine++) {
            x.set(1, fine);
        }
        for (int fine = 18; fine >= 13; fine--) {
            x.undo();
            check.same("the fine", x.setting(1), fine);
        }
        x.set(1, 77);
        x.undo();
        check.same("the fine behind a new call", x.setting(1), 13);
        VowBlocks y = new VowBlocks();
        y.make(7, 1);
        y.undo();
        y.make(8, 2);
        check.rows("made behind undo", y, "8,8");
        y.undo();
        check.rows("undone again", y);
    }

    private static void statesLeft() {
        VowBlocks x = new VowBlocks();
        x.make(7, 1);
        check.same("of one", x.undo(), 0);
        for (int i = 0; i < 9; i++) {
            x.set(1, i);
        }
        for (int left = 5; left >= 0; left--) {
            check.same("of nine", x.undo(), left);
            check.same("told by count", x.count(9), left);
        }
    }

    private static void undoOfNothing() {
        VowBlocks x = new VowBlocks();
        check.refuses("at first", x, Check.STATE, x::undo);
        x.make(7, 1);
        x.undo();
        check.refuses("behind undo", x, Check.STATE, x::undo);
        x.append('7');
        check.refuses("behind append", x, Check.STATE, x::undo);
        for (int i = 0; i < 9; i++) {
            x.set(1, i);
        }
        for (int i = 0; i < 6; i++) {
            x.undo();
        }
        check.refuses("behind six", x, Check.STATE, x::undo);
    }
}
