/** The boundaries of the promises 18 to 21: block, value, count, setting. */
final class EdgesOfViews {
    private static final Check check = EdgesTest.check;

    private static final String NO_BLOCK = "Throws `IndexOutOfBoundsException` if there is no such block";

    static void tell(Edges edges) {
        edges.of("Promise 18", "`what`: 0: values; 1: its code; 2: the bits that it costs by it; 3: the day on which it vowed",
                EdgesOfViews::propertiesAtFirst);
        edges.of("Promise 18", "4: bits that it regrets so far; 5: work so far; 6: questions so far; 7: fines so far",
                EdgesOfViews::countedSoFar);
        edges.of("Promise 18", "8: its best code; 9: the bits that it costs by that", EdgesOfViews::bestCode);
        edges.of("Promise 18", "10: the lowest number of a block with the same row", EdgesOfViews::sameRow);
        edges.of("Promise 18", "11: how often it chose its code so far", EdgesOfViews::choices);
        edges.of("Promise 18", NO_BLOCK, () -> check.noSuchBlock("block", (x, block) -> x.block(block, 11)));
        edges.of("Promise 18", "Throws `IllegalArgumentException` if what is not 0 to 11", EdgesOfViews::blockRefuses);
        edges.of("Promise 19", "`place`: the place of the value, from 0", EdgesOfViews::places);
        edges.of("Promise 19", "Throws `IndexOutOfBoundsException` if there is no such block or place",
                () -> check.noSuchPlace("value", (x, block, place) -> x.value(block, place)));
        edges.of("Promise 20", "`what`: 0: blocks; 1: number of the day; 2: values of all blocks", EdgesOfViews::countsOfNothing);
        edges.of("Promise 20", "3: bits that all blocks cost by their codes; 4: bits that they cost by their best codes",
                EdgesOfViews::countsOfFullBlocks);
        edges.of("Promise 20", "5: regrets of all blocks so far; 6: work of all blocks so far; 7: fines of all blocks so far",
                EdgesOfViews::countedOfAll);
        edges.of("Promise 20", "8: blocks with different rows", EdgesOfViews::differentRows);
        edges.of("Promise 20", "9: saved states", EdgesOfViews::savedStates);
        edges.of("Promise 20", "10 to 15: blocks with the code 0 to 5", EdgesOfViews::blocksByCode);
        edges.of("Promise 20", "Throws `IllegalArgumentException` if what is not 0 to 15", EdgesOfViews::countRefuses);
        edges.of("Promise 21", "`setting`: 0 or 1", EdgesOfViews::settings);
        edges.of("Promise 21", "Throws `IndexOutOfBoundsException` if there is no such setting", EdgesOfViews::noSuchSetting);
    }

    // ---- block

    private static void properties(VowBlocks x, int block, int... due) {
        for (int what = 0; what < due.length; what++) {
            check.same("block(" + block + ", " + what + ")", x.block(block, what), due[what]);
        }
    }

    private static void propertiesAtFirst() {
        VowBlocks x = Check.with("5");
        x.pass(9);
        x.make(255, 24);
        properties(x, 0, 1, 0, 8, 0, 0, 0, 0, 0, 0, 8, 0, 1);
        properties(x, 1, 24, 3, 12, 9, 0, 0, 0, 0, 3, 12, 1, 1);
    }

    private static void countedSoFar() {
        VowBlocks x = EdgesOfTerms.regretful();
        EdgesOfTerms.pass(x, 29);
        x.ask(0, 1, 0);
        x.ask(0, 2, 0);
        x.breakVow(0);
        properties(x, 0, 24, 1, 26, 29, 29 * 193, 48, 2, 4, 1, 26, 0, 2);
        x.pass(100);
        x.ask(0, 0, 0);
        x.breakVow(0);
        properties(x, 0, 24, 1, 26, 129, 29 * 193, 50, 3, 4 + 4 * 20, 1, 26, 0, 6);
        x.undo();
        x.undo();
        properties(x, 0, 24, 1, 26, 119, 29 * 193, 48, 2, 4, 1, 26, 0, 5);
        afterOneThatIsGone();
    }

    /** Nothing so far is left of a block that had the same number before. */
    private static void afterOneThatIsGone() {
        VowBlocks x = Check.with("5", "7*9", "8,8");
        x.put(2, 0, 200);
        x.add(2, 0);
        x.pass(2);
        x.ask(2, 1, 0);
        x.breakVow(2);
        for (int what = 4; what <= 7; what++) {
            check.holds("it had something of " + what, x.block(2, what) > 0);
        }
        x.join(0, 2);
        x.cut(1, 8);
        properties(x, 2, 1, 0, 8, 2, 0, 0, 0, 0, 0, 8, 2, 1);
        x.undo();
        x.make(9, 1);
        properties(x, 2, 1, 0, 8, 2, 0, 0, 0, 0, 0, 8, 2, 1);
        x.undo();
        Check.row(x, "9");
        properties(x, 2, 1, 0, 8, 2, 0, 0, 0, 0, 0, 8, 2, 1);
    }

    private static void bestCode() {
        VowBlocks x = Check.with("5*24");
        check.same("its best code", x.block(0, 8), 3);
        x.put(0, 0, 255);
        check.same("the best code of the changed row", x.block(0, 8), 1);
        check.same("the bits by it", x.block(0, 9), 26);
        check.same("its own code", x.block(0, 1), 3);
        check.same("the bits by its own", x.block(0, 2), 12 + 23 * 9);
        x.put(0, 0, 5);
        check.same("the best code of the row as before", x.block(0, 8), 3);
        check.same("the bits by it", x.block(0, 9), 12);
    }

    private static void sameRow() {
        VowBlocks x = Check.with("5", "5,6", "6,5", "5", "5,6,7", "5,6", "5", "5*24");
        int[] due = {0, 1, 2, 0, 4, 1, 0, 7};
        for (int number = 0; number < 8; number++) {
            check.same("the lowest number like " + number, x.block(number, 10), due[number]);
        }
        x.put(0, 0, 6);
        check.same("no lower one", x.block(3, 10), 3);
        check.same("the lower one", x.block(6, 10), 3);
        x.put(7, 23, 6);
        x.undo();
        x.join(1, 0);
        check.same("numbers less by 1", x.block(5, 10), 2);
        VowBlocks full = Check.with("5*23,6", "5*23,7", "5*24", "4,5*23", "5*23", "5*23,7");
        int[] lowest = {0, 1, 2, 3, 4, 1};
        for (int number = 0; number < 6; number++) {
            check.same("long rows like " + number, full.block(number, 10), lowest[number]);
        }
        full.breakVow(5);
        full.ask(5, 0, 0);
        check.same("only the row matters", full.block(5, 10), 1);
        VowBlocks shorter = Check.with("5,6,7", "5,6,7", "5,6,7");
        shorter.take(1, 2);
        check.same("a shorter row is another one", shorter.block(1, 10), 1);
        check.same("a longer row is another one", shorter.block(2, 10), 0);
    }

    private static void choices() {
        VowBlocks x = Check.with("5", "6*20");
        check.same("chosen once", x.block(0, 11), 1);
        x.breakVow(0);
        x.breakVow(0);
        check.same("chosen by breakVow", x.block(0, 11), 3);
        x.pass(29);
        check.same("not yet by a day", x.block(0, 11), 3);
        x.pass(1);
        check.same("chosen by a day", x.block(0, 11), 4);
        check.same("of the other one", x.block(1, 11), 2);
        x.set(0, 1);
        x.pass(100);
        check.same("chosen every day", x.block(0, 11), 104);
        x.join(0, 1);
        x.make(7, 1);
        check.same("chosen once, behind one that is gone", x.block(1, 11), 1);
    }

    private static void blockRefuses() {
        VowBlocks x = Check.with("5");
        check.range("block", x, Check.ARGUMENT, 0, 11, what -> x.block(0, what));
    }

    // ---- value

    private static void places() {
        VowBlocks x = Check.with("9", "1,2,3", "0,5*22,255");
        check.same("the only place", x.value(0, 0), 9);
        check.same("the first place", x.value(1, 0), 1);
        check.same("the last place", x.value(1, 2), 3);
        check.same("the first of 24", x.value(2, 0), 0);
        check.same("the last of 24", x.value(2, 23), 255);
    }

    // ---- count

    private static void countsOfNothing() {
        VowBlocks x = new VowBlocks();
        for (int what = 0; what < 16; what++) {
            check.same("count(" + what + ")", x.count(what), 0);
        }
        for (int i = 1; i <= 8; i++) {
            x.make(i, 24);
            check.same("blocks", x.count(0), i);
            check.same("values of all", x.count(2), 24 * i);
        }
        x.pass(100);
        check.same("the day", x.count(1), 100);
        x.take(7, 0);
        check.same("values of all", x.count(2), 191);
    }

    private static void countsOfFullBlocks() {
        VowBlocks x = new VowBlocks();
        check.same("bits of nothing", x.count(3) + x.count(4), 0);
        for (int i = 0; i < 8; i++) {
            x.make(255, 24);
        }
        check.same("bits by the codes", x.count(3), 8 * 12);
        check.same("bits by the best codes", x.count(4), 8 * 12);
        for (int i = 0; i < 8; i++) {
            x.put(i, 23, 0);
            check.same("bits by the codes", x.count(3), 8 * 12 + (i + 1) * 207);
            check.same("bits by the best codes", x.count(4), 8 * 12 + (i + 1) * 14);
        }
    }

    private static void countedOfAll() {
        VowBlocks x = new VowBlocks();
        for (int i = 0; i < 8; i++) {
            x.make(255, 24);
            x.put(i, 23, 0);
        }
        x.pass(2);
        for (int i = 0; i < 8; i++) {
            x.ask(i, 1, 0);
            check.same("work of all", x.count(6), 24 * (i + 1));
            x.breakVow(i);
            check.same("fines of all", x.count(7), 112 * (i + 1));
        }
        check.same("regrets of all", x.count(5), 16 * 193);
        x.take(0, 23);
        x.take(1, 0);
        for (int i = 0; i < 22; i++) {
            x.take(0, 0);
        }
        x.join(0, 1);
        check.same("regrets of all, with one that is gone", x.count(5), 16 * 193);
        check.same("work of all, with one that is gone", x.count(6), 192);
        check.same("fines of all, with one that is gone", x.count(7), 896);
    }

    private static void differentRows() {
        check.same("of nothing", new VowBlocks().count(8), 0);
        VowBlocks x = Check.with("5,6", "5,6", "5,6", "5,6", "5,6", "5,6", "5,6", "5,6");
        check.same("eight that are alike", x.count(8), 1);
        for (int i = 1; i < 8; i++) {
            x.put(i, 1, 10 + i);
            check.same("others that are not", x.count(8), i == 7 ? 8 : i + 1);
        }
        x.turn(0);
        check.same("another order", x.count(8), 8);
        x.turn(1);
        x.put(1, 0, 6);
        check.same("like the first one turned", x.count(8), 7);
        check.same("of one", Check.with("5").count(8), 1);
    }

    private static void savedStates() {
        VowBlocks x = new VowBlocks();
        for (int calls = 1; calls <= 8; calls++) {
            x.set(1, calls);
            check.same("saved states", x.count(9), Math.min(calls, 6));
        }
        x.undo();
        check.same("saved states behind undo", x.count(9), 5);
    }

    private static void blocksByCode() {
        String[] rows = {"5", "5*9,1*9", "1,255,1,255,0*4", "10,11,12,13,14,15,16", "7*9,8,7*3,200", "9,14,12,8,15,10,13,11,8,9"};
        for (int code = 0; code < 6; code++) {
            VowBlocks x = new VowBlocks();
            for (int many = 1; many <= 8; many++) {
                Check.row(x, rows[code]);
                for (int what = 10; what < 16; what++) {
                    check.same("count(" + what + ")", x.count(what), what == 10 + code ? many : 0);
                }
            }
        }
        VowBlocks kept = EdgesOfTerms.regretful();
        check.same("its own code, not the best one", kept.count(13), 1);
        check.same("the best one", kept.count(11), 0);
    }

    private static void countRefuses() {
        VowBlocks x = Check.with("5");
        check.range("count", x, Check.ARGUMENT, 0, 15, what -> x.count(what));
    }

    // ---- setting

    private static void settings() {
        VowBlocks x = new VowBlocks();
        check.same("setting 0", x.setting(0), 30);
        check.same("setting 1", x.setting(1), 4);
        x.set(0, 400);
        x.set(1, 0);
        check.same("setting 0", x.setting(0), 400);
        check.same("setting 1", x.setting(1), 0);
    }

    private static void noSuchSetting() {
        VowBlocks x = new VowBlocks();
        check.range("setting", x, Check.INDEX, 0, 1, setting -> x.setting(setting));
    }
}
