/** Promises 14 to 17: append, clearBuffer, firstError, undo. */
public final class TextsTest {
    private static final Check check = new Check("TextsTest");

    public static void main(String[] args) {
        append();
        clearBuffer();
        firstError();
        firstErrorOfLongTexts();
        everySecondSign();
        undo();
        undoOfChoices();
        undoOfEightBlocks();
        undoDropsTheOldest();
        check.finish();
    }

    private static void append() {
        VowBlocks x = new VowBlocks();
        check.same("append 33", x.append(33), 1);
        check.same("append 126", x.append(126), 2);
        for (int code : new int[] {32, 127, 0, -1, Integer.MAX_VALUE, Integer.MIN_VALUE, 48 + 65536}) {
            check.refuses("append(" + code + ")", x, Check.ARGUMENT, () -> x.append(code));
        }
        for (int length = 3; length <= 60; length++) {
            check.same("append", x.append('1'), length);
        }
        check.refuses("append to 60", x, Check.STATE, () -> x.append('1'));
        check.refuses("append 32 to 60", x, Check.ARGUMENT, () -> x.append(32));
        check.same("append is not saved", x.count(9), 0);
    }

    private static void clearBuffer() {
        VowBlocks x = new VowBlocks();
        check.same("clear nothing", x.clearBuffer(), 0);
        Check.type(x, "1,2,3");
        check.same("clear", x.clearBuffer(), 5);
        check.same("clear again", x.clearBuffer(), 0);
        check.same("append behind it", x.append('7'), 1);
        check.same("clearBuffer is not saved", x.count(9), 0);
    }

    private static void error(String text, int due) {
        VowBlocks x = new VowBlocks();
        Check.type(x, text);
        check.same("firstError of " + text, x.firstError(), due);
        check.same("firstError again", x.firstError(), due);
        check.same("the length of " + text, x.clearBuffer(), text.length());
    }

    private static void firstError() {
        String[] right = {"", "0", "9", "25", "255", "200", "0,0", "5*", "5*1", "5*24", "0*9", "255*24,", "5,", "1*24,1*24,1*24",
            "1,2,3,4,5,6,7,8,9,10,11,12,13,14,15,16,17,18,19,20,21,22,23"};
        for (String text : right) {
            error(text, text.length());
        }
        error("256", 2);
        error("260", 2);
        error("300", 2);
        error("2550", 3);
        error("1000", 3);
        error("99,999", 5);
        error("01", 1);
        error("00", 1);
        error("5,07", 3);
        error(",", 0);
        error("*", 0);
        error("5,,", 2);
        error("5,*", 2);
        error("5*,", 2);
        error("5*0", 2);
        error("5*01", 2);
        error("5**", 2);
        error("5*25", 3);
        error("5*30", 3);
        error("5*100", 4);
        error("5*111", 4);
        error("5*2*2", 3);
        error("-5", 0);
        error("+5", 0);
        error("5;6;", 1);
        error("1,2,x,y", 4);
        error("1,2/3", 3);
        error("1,2:3", 3);
    }

    private static void firstErrorOfLongTexts() {
        error("1,".repeat(30), 60);
        error("1,".repeat(29) + "12", 60);
        error("1,".repeat(29) + "1x", 59);
        VowBlocks x = new VowBlocks();
        Check.type(x, "1,x");
        x.clearBuffer();
        Check.type(x, "1,");
        check.same("what was cleared is no matter", x.firstError(), 2);
        x.clearBuffer();
        Check.type(x, "1*1,".repeat(15).substring(0, 59) + "1");
        check.same("no error in 60", x.firstError(), 60);
    }

    private static void everySecondSign() {
        String[] starts = {"", "5", "0", "25", "5*", "5*2", "5,"};
        String[] next = {"0123456789", "0123456789,*", ",*", "012345,*", "123456789", "01234,", "0123456789"};
        for (int i = 0; i < starts.length; i++) {
            for (char sign = 33; sign < 127; sign++) {
                int due = starts[i].length() + (next[i].indexOf(sign) >= 0 ? 1 : 0);
                error(starts[i] + sign, due);
            }
        }
    }

    private static void undo() {
        VowBlocks x = new VowBlocks();
        check.refuses("undo of nothing", x, Check.STATE, x::undo);
        x.make(5, 3);
        x.put(0, 1, 9);
        x.ask(0, 1, 0);
        x.pass(7);
        x.breakVow(0);
        long before = x.digest();
        x.set(0, 77);
        check.same("undo", x.undo(), 5);
        check.same("all is as before", x.digest(), before);
        check.same("undo of breakVow", x.undo(), 4);
        check.same("the fines", x.block(0, 7), 0);
        check.same("undo of pass", x.undo(), 3);
        check.same("the day", x.count(1), 0);
        check.same("undo of ask", x.undo(), 2);
        check.same("the questions", x.block(0, 6), 0);
        check.same("the work", x.block(0, 5), 0);
        check.same("undo of put", x.undo(), 1);
        check.same("the value", x.value(0, 1), 5);
        check.same("undo of make", x.undo(), 0);
        check.same("no blocks", x.count(0), 0);
        check.refuses("undo at the end", x, Check.STATE, x::undo);
    }

    private static void undoOfChoices() {
        VowBlocks x = Check.with("7*9,8,7*3,200");
        x.pass(40);
        for (int place = 0; place < 12; place++) {
            x.put(0, place, 20 * place);
        }
        check.same("its code", x.block(0, 1), 4);
        check.same("its vow", x.block(0, 3), 30);
        x.pass(30);
        check.holds("another code", x.block(0, 1) != 4);
        check.same("another vow", x.block(0, 3), 60);
        check.same("three choices", x.block(0, 11), 3);
        x.undo();
        check.same("its code again", x.block(0, 1), 4);
        check.same("its vow again", x.block(0, 3), 30);
        check.same("two choices again", x.block(0, 11), 2);
    }

    private static void undoOfEightBlocks() {
        VowBlocks x = new VowBlocks();
        for (int i = 0; i < 8; i++) {
            x.make(i, 1 + i);
        }
        x.ask(7, 1, 0);
        x.join(0, 7);
        x.join(5, 2);
        x.undo();
        x.undo();
        check.rows("eight again", x, "0", "1,1", "2,2,2", "3,3,3,3", "4,4,4,4,4", "5,5,5,5,5,5", "6,6,6,6,6,6,6", "7,7,7,7,7,7,7,7");
        check.same("the question again", x.block(7, 6), 1);
    }

    private static void undoDropsTheOldest() {
        VowBlocks x = new VowBlocks();
        for (int i = 0; i < 9; i++) {
            check.same("saved", x.count(9), Math.min(i, 6));
            x.set(1, 10 + i);
        }
        for (int i = 0; i < 6; i++) {
            check.same("undo", x.undo(), 5 - i);
            check.same("the fine", x.setting(1), 17 - i);
        }
        check.refuses("undo of a dropped state", x, Check.STATE, x::undo);
        x.make(1, 1);
        x.make(2, 2);
        check.same("saved anew", x.count(9), 2);
        x.join(1, 0);
        x.undo();
        x.add(0, 200);
        check.rows("behind join, undo and add", x, "1,200", "2,2");
        x.undo();
        x.undo();
        check.rows("back", x, "1");
    }
}
