/** The boundaries of what rows cost by the codes. */
final class EdgesOfCodes {
    private static final Check check = EdgesTest.check;

    private static final int PLAIN = 0;
    private static final int RUNS = 1;
    private static final int TABLE = 2;
    private static final int STEPS = 3;
    private static final int COMMON = 4;
    private static final int FRAME = 5;

    static void tell(Edges edges) {
        edges.of("Codes", "0 plain: 8 n.", EdgesOfCodes::plain);
        edges.of("Codes", "1 runs: 13 for each run (as many equal values one behind another as possible).", EdgesOfCodes::runs);
        edges.of("Codes", "w the least number with d at most 2 to the w.", EdgesOfCodes::table);
        edges.of("Codes", "3 steps: 12 + (n - 1) w", EdgesOfCodes::stepsOfFewAndMany);
        edges.of("Codes", "each step (a value less the one ahead of it) is 0 if w is 0", EdgesOfCodes::noSteps);
        edges.of("Codes", "otherwise at least -2 to the (w - 1) and less than 2 to the (w - 1).", EdgesOfCodes::steps);
        edges.of("Codes", "with e values that are not the common one", EdgesOfCodes::commonFewAndMany);
        edges.of("Codes", "(the one that is most often in the row, of several the least one)", EdgesOfCodes::commonOfSeveral);
        edges.of("Codes", "the greatest value less the least one is less than 2 to the w.", EdgesOfCodes::frame);
        edges.of("Codes", "The best code of a row is the one by which it costs least", EdgesOfCodes::best);
        edges.of("Codes", "of several the lowest one.", EdgesOfCodes::bestOfSeveral);
    }

    private static void costs(int code, String row, int due) {
        check.same("cost of " + row, Check.with(row).cost(0, code), due);
    }

    /** A block of the values 0, 10, 20 and so on up to 230; a text of them would be too long for the buffer. */
    static VowBlocks different() {
        VowBlocks x = new VowBlocks();
        x.make(0, 1);
        for (int v = 10; v <= 230; v += 10) {
            x.add(0, v);
        }
        return x;
    }

    private static void plain() {
        costs(PLAIN, "0", 8);
        costs(PLAIN, "255*24", 192);
        costs(PLAIN, "0,255", 16);
    }

    private static void runs() {
        costs(RUNS, "5", 13);
        costs(RUNS, "5*24", 13);
        costs(RUNS, "5*23,6", 26);
        costs(RUNS, "6,5*23", 26);
        costs(RUNS, "5,6,5", 39);
        costs(RUNS, "0,255*2,0", 39);
        costs(RUNS, "5*2,5*3,5", 13);
        costs(RUNS, "5,6" + ",5,6".repeat(11), 24 * 13);
        check.same("24 different values", different().cost(0, RUNS), 24 * 13);
    }

    private static void table() {
        int[] widths = {0, 1, 2, 2, 3, 3, 3, 3, 4, 4, 4, 4, 4, 4, 4, 4, 5, 5, 5, 5, 5, 5, 5, 5};
        VowBlocks x = Check.with("0*24");
        for (int d = 1; d <= 24; d++) {
            check.same("table of " + d + " values", x.cost(0, TABLE), 5 + 8 * d + 24 * widths[d - 1]);
            if (d < 24) {
                x.put(0, d, 256 - d);
            }
        }
        costs(TABLE, "7", 13);
        costs(TABLE, "0,255", 23);
    }

    private static void stepsOfFewAndMany() {
        costs(STEPS, "0", 12);
        costs(STEPS, "255", 12);
        costs(STEPS, "0,255", 21);
        costs(STEPS, "0,255*23", 12 + 23 * 9);
        costs(STEPS, "255*23,0", 12 + 23 * 9);
    }

    private static void noSteps() {
        costs(STEPS, "5*24", 12);
        costs(STEPS, "0*2", 12);
        costs(STEPS, "5*22,4*2", 12 + 23);
        costs(STEPS, "5,4*23", 12 + 23);
        costs(STEPS, "4*23,5", 12 + 46);
    }

    private static void steps() {
        for (int w = 1; w <= 8; w++) {
            int half = 1 << (w - 1);
            costs(STEPS, half + ",0", 12 + w);
            costs(STEPS, half + 1 + ",0", 13 + w);
            costs(STEPS, "0," + half, 13 + w);
            costs(STEPS, half + ",0," + (half - 1), 12 + 2 * w);
            costs(STEPS, half + ",0," + half, 14 + 2 * w);
        }
        costs(STEPS, "0,1", 14);
        costs(STEPS, "100,120,0", 28);
        costs(STEPS, "100,80,200", 28);
        costs(STEPS, "255,0,255", 30);
    }

    private static void commonFewAndMany() {
        costs(COMMON, "0", 9);
        costs(COMMON, "255*24", 32);
        costs(COMMON, "255*23,0", 40);
        costs(COMMON, "0,255*23", 40);
        costs(COMMON, "7*9,8*2,7*3", 8 + 14 + 16);
        costs(COMMON, "1*12,2*12", 8 + 24 + 96);
        check.same("24 different values", different().cost(0, COMMON), 8 + 24 + 8 * 23);
    }

    private static void commonOfSeveral() {
        String[] rows = {"9,3,9,3", "3,9", "9,3", "255,0", "7,5,6", "200*12,100*12", "100*12,200*12", "4,8*3,4*2"};
        int[] least = {3, 3, 3, 0, 5, 100, 100, 4};
        int[] other = {9, 9, 9, 255, 6, 200, 200, 8};
        int[] others = {2, 1, 1, 1, 2, 12, 12, 3};
        for (int i = 0; i < rows.length; i++) {
            VowBlocks x = Check.with(rows[i]);
            check.same("the common one of " + rows[i], x.work(0, COMMON, 0, least[i]), 1);
            check.same("another one of " + rows[i], x.work(0, COMMON, 0, other[i]), 1 + others[i]);
        }
        VowBlocks more = Check.with("3*2,9*3,1");
        check.same("more often, though not the least one", more.work(0, COMMON, 0, 9), 1);
        check.same("the least one, though not often", more.work(0, COMMON, 0, 1), 4);
        check.same("the least one of 24", different().work(0, COMMON, 0, 0), 1);
        check.same("not the greatest one of 24", different().work(0, COMMON, 0, 230), 24);
    }

    private static void frame() {
        for (int w = 0; w <= 8; w++) {
            int greatest = (1 << w) - 1;
            costs(FRAME, "0," + greatest, 12 + 2 * w);
            costs(FRAME, greatest + ",0", 12 + 2 * w);
            costs(FRAME, "255," + (255 - greatest), 12 + 2 * w);
            if (w < 8) {
                costs(FRAME, "0," + (greatest + 1), 14 + 2 * w);
                costs(FRAME, (254 - greatest) + ",255", 14 + 2 * w);
            }
        }
        costs(FRAME, "200", 12);
        costs(FRAME, "200*24", 12);
        costs(FRAME, "200*23,199", 36);
        costs(FRAME, "0,255*23", 204);
    }

    private static void chooses(String row, int code, int bits) {
        VowBlocks x = Check.with(row);
        check.same("the best code of " + row, x.block(0, 8), code);
        check.same("the bits by it, " + row, x.block(0, 9), bits);
        check.same("the code of " + row, x.block(0, 1), code);
    }

    private static void best() {
        chooses("5", PLAIN, 8);
        chooses("5*9,1*9", RUNS, 26);
        chooses("1,255,1,255,0*4", TABLE, 45);
        chooses("10,11,12,13,14,15,16", STEPS, 24);
        chooses("7*9,8,7*3,200", COMMON, 38);
        chooses("9,14,12,8,15,10,13,11,8,9", FRAME, 42);
        check.same("the best code of 24 different values", different().block(0, 8), STEPS);
        check.same("the bits by it", different().block(0, 9), 12 + 23 * 5);
    }

    /** A row by which two codes cost the same, and each other code more. */
    private static void tie(String row, int one, int other, int bits) {
        VowBlocks x = Check.with(row);
        check.same("a tie of " + row, x.cost(0, one), bits);
        check.same("a tie of " + row, x.cost(0, other), bits);
        for (int code = 0; code < 6; code++) {
            check.holds("others cost more, " + row, code == one || code == other || x.cost(0, code) > bits);
        }
        chooses(row, one, bits);
    }

    private static void bestOfSeveral() {
        tie("200*2,10*2,180*2,30*2,160*2,50,140,70", PLAIN, RUNS, 104);
        tie("1,200,1,200,9,9,250,250,100", PLAIN, TABLE, 72);
        tie("10,60,20,70,33", PLAIN, STEPS, 40);
        tie("0,90,180,20,110,200,40,0", PLAIN, COMMON, 64);
        tie("0,100,3,97,9,91,27,64,81,44,71,12", PLAIN, FRAME, 96);
        tie("5*3,200*2", RUNS, TABLE, 26);
        tie("6*7,5*8", RUNS, STEPS, 26);
        tie("5*11,200,5*11", RUNS, COMMON, 39);
        tie("5*7,6*7", RUNS, FRAME, 26);
        tie("5,8,11,8,5,8,11,8,5,8,11,8,5,8,11,8,5,8,11,8", TABLE, STEPS, 69);
        tie("1*3,200*2,1*2,90*2,1*2", TABLE, COMMON, 51);
        tie("5*2,8*2,5*5", TABLE, FRAME, 30);
        tie("9*5,7", STEPS, COMMON, 22);
        tie("5*24", STEPS, FRAME, 12);
        tie("5*3,8", COMMON, FRAME, 20);
    }
}
