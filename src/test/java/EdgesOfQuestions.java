/** The boundaries of questions: their answers, and their work by each code. */
final class EdgesOfQuestions {
    private static final Check check = EdgesTest.check;

    private static final int HOW_MANY = 0;
    private static final int SUM = 1;
    private static final int FIRST = 2;

    static void tell(Edges edges) {
        edges.of("Questions", "0: how many of its values are v", EdgesOfQuestions::howMany);
        edges.of("Questions", "1: the sum of its values (v does not matter)", EdgesOfQuestions::sum);
        edges.of("Questions", "2: the place of the first v in it, from 0, or NONE", EdgesOfQuestions::firstPlace);
        edges.of("Questions", "The work of it depends on the code", EdgesOfQuestions::dependsOnTheCode);
        edges.of("Questions", "let m be the place of the first v plus 1, or n if there is none", EdgesOfQuestions::reach);
        edges.of("Questions", "plain, and steps: for the questions 0 and 1 n, for 2 m.", EdgesOfQuestions::plainAndSteps);
        edges.of("Questions", "runs: for 0 and 1 the number of runs", EdgesOfQuestions::runs);
        edges.of("Questions", "for 2 the number of runs up to the one with the first v, or of all if there is none.",
                EdgesOfQuestions::firstRuns);
        edges.of("Questions", "table: for 1 d + n", EdgesOfQuestions::sumOfTables);
        edges.of("Questions", "for 0 and 2 d, and, if v is in the row, n (for 0) or m (for 2) besides.", EdgesOfQuestions::tables);
        edges.of("Questions", "common: for 1 1 + e", EdgesOfQuestions::sumOfCommon);
        edges.of("Questions", "for 0 1 if v is the common value, otherwise 1 + e", EdgesOfQuestions::common);
        edges.of("Questions", "for 2 n.", EdgesOfQuestions::firstOfCommon);
        edges.of("Questions", "frame: for 1 n", EdgesOfQuestions::sumOfFrames);
        edges.of("Questions", "for 0 and 2 1 if v is less than the least value", EdgesOfQuestions::belowTheFrame);
        edges.of("Questions", "or at least the least value plus 2 to the w", EdgesOfQuestions::aboveTheFrame);
        edges.of("Questions", "otherwise n (for 0) or m (for 2).", EdgesOfQuestions::withinTheFrame);
    }

    private static void asks(String row, int question, int v, int due) {
        check.same("question " + question + " with " + v + " of " + row, Check.with(row).ask(0, question, v), due);
    }

    private static void works(String row, int code, int question, int v, int due) {
        check.same("work of question " + question + " with " + v + " of " + row, Check.with(row).work(0, code, question, v), due);
    }

    /** The same for 24 different values. */
    private static void worksOfMany(int code, int question, int v, int due) {
        check.same("work of question " + question + " with " + v + " of 24 values", EdgesOfCodes.different().work(0, code, question, v), due);
    }

    // ---- answers

    private static void howMany() {
        asks("5", HOW_MANY, 5, 1);
        asks("5", HOW_MANY, 4, 0);
        asks("0*24", HOW_MANY, 0, 24);
        asks("255*24", HOW_MANY, 255, 24);
        asks("255*24", HOW_MANY, 0, 0);
        asks("5,6,5,7,5", HOW_MANY, 5, 3);
        asks("6,5*22,7", HOW_MANY, 7, 1);
    }

    private static void sum() {
        asks("0", SUM, 255, 0);
        asks("0*24", SUM, 0, 0);
        asks("255*24", SUM, 0, 6120);
        asks("255*24", SUM, 255, 6120);
        asks("1,2,3", SUM, 2, 6);
    }

    private static void firstPlace() {
        asks("5", FIRST, 5, 0);
        asks("5", FIRST, 6, -1);
        asks("5*24", FIRST, 5, 0);
        asks("0*23,255", FIRST, 255, 23);
        asks("255*23,0", FIRST, 0, 23);
        asks("1,2,2,1", FIRST, 2, 1);
        asks("1*24", FIRST, 0, VowBlocks.NONE);
    }

    private static void dependsOnTheCode() {
        VowBlocks x = EdgesOfTerms.regretful();
        x.ask(0, FIRST, 0);
        check.same("by steps", x.block(0, 5), 24);
        x.breakVow(0);
        x.ask(0, FIRST, 0);
        check.same("by runs besides", x.block(0, 5), 26);
        check.same("work of all", x.count(6), 26);
        check.same("two questions", x.block(0, 6), 2);
    }

    // ---- work

    private static void reach() {
        works("5", 0, FIRST, 5, 1);
        works("5", 0, FIRST, 6, 1);
        works("5*24", 0, FIRST, 5, 1);
        works("5*23,6", 0, FIRST, 6, 24);
        works("5*23,6", 0, FIRST, 7, 24);
        works("5,6,7,6", 0, FIRST, 6, 2);
    }

    private static void plainAndSteps() {
        for (int code : new int[] {0, 3}) {
            works("5", code, HOW_MANY, 5, 1);
            works("5", code, SUM, 9, 1);
            works("5*23,6", code, HOW_MANY, 0, 24);
            works("5*23,6", code, HOW_MANY, 5, 24);
            works("5*23,6", code, SUM, 0, 24);
            works("5*23,6", code, FIRST, 5, 1);
            works("5*23,6", code, FIRST, 6, 24);
            works("5*23,6", code, FIRST, 0, 24);
        }
    }

    private static void runs() {
        for (int question : new int[] {HOW_MANY, SUM}) {
            works("5", 1, question, 5, 1);
            works("5*24", 1, question, 6, 1);
            works("5*23,6", 1, question, 5, 2);
            worksOfMany(1, question, 0, 24);
        }
    }

    private static void firstRuns() {
        works("5", 1, FIRST, 5, 1);
        works("5", 1, FIRST, 6, 1);
        works("5*24", 1, FIRST, 5, 1);
        works("5*24", 1, FIRST, 6, 1);
        works("5*9,6*9", 1, FIRST, 5, 1);
        works("5*9,6*9", 1, FIRST, 6, 2);
        works("5*9,6*9", 1, FIRST, 7, 2);
        works("5,6,5,6,7,5", 1, FIRST, 6, 2);
        works("5,6,5,6,7,5", 1, FIRST, 7, 5);
        works("5,6,5,6,7,5", 1, FIRST, 8, 6);
        worksOfMany(1, FIRST, 230, 24);
        worksOfMany(1, FIRST, 231, 24);
    }

    private static void sumOfTables() {
        works("5", 2, SUM, 6, 2);
        works("5*24", 2, SUM, 5, 25);
        works("5*24", 2, SUM, 6, 25);
        worksOfMany(2, SUM, 1, 48);
    }

    private static void tables() {
        works("5", 2, HOW_MANY, 5, 2);
        works("5", 2, HOW_MANY, 6, 1);
        works("5", 2, FIRST, 5, 2);
        works("5", 2, FIRST, 6, 1);
        works("5*23,6", 2, HOW_MANY, 6, 26);
        works("5*23,6", 2, HOW_MANY, 7, 2);
        works("5*23,6", 2, FIRST, 5, 3);
        works("5*23,6", 2, FIRST, 6, 26);
        works("5*23,6", 2, FIRST, 7, 2);
        worksOfMany(2, HOW_MANY, 230, 48);
        worksOfMany(2, FIRST, 0, 25);
        worksOfMany(2, FIRST, 5, 24);
    }

    private static void sumOfCommon() {
        works("5", 4, SUM, 6, 1);
        works("5*24", 4, SUM, 6, 1);
        works("5*23,6", 4, SUM, 5, 2);
        worksOfMany(4, SUM, 0, 24);
    }

    private static void common() {
        works("5", 4, HOW_MANY, 5, 1);
        works("5", 4, HOW_MANY, 6, 1);
        works("5*23,6", 4, HOW_MANY, 5, 1);
        works("5*23,6", 4, HOW_MANY, 6, 2);
        works("5*23,6", 4, HOW_MANY, 7, 2);
        works("6,5,6,5", 4, HOW_MANY, 5, 1);
        works("6,5,6,5", 4, HOW_MANY, 6, 3);
        worksOfMany(4, HOW_MANY, 0, 1);
        worksOfMany(4, HOW_MANY, 10, 24);
    }

    private static void firstOfCommon() {
        works("5", 4, FIRST, 5, 1);
        works("5*24", 4, FIRST, 5, 24);
        works("5*24", 4, FIRST, 6, 24);
        works("6,5*23", 4, FIRST, 6, 24);
    }

    private static void sumOfFrames() {
        works("5", 5, SUM, 0, 1);
        works("5*24", 5, SUM, 255, 24);
        works("10,12,14", 5, SUM, 9, 3);
        works("10,12,14", 5, SUM, 18, 3);
    }

    private static void belowTheFrame() {
        for (int question : new int[] {HOW_MANY, FIRST}) {
            works("10,12,14", 5, question, 9, 1);
            works("10,12,14", 5, question, 0, 1);
            works("14,12,10", 5, question, 9, 1);
            works("14,12,10", 5, question, 10, 3);
            works("255*24", 5, question, 254, 1);
            works("1,0,255", 5, question, 2, 3);
            works("1,1,255", 5, question, 0, 1);
        }
    }

    private static void aboveTheFrame() {
        for (int w = 0; w <= 7; w++) {
            int beyond = 20 + (1 << w);
            String row = beyond - 1 + "*3,20*2";
            for (int question : new int[] {HOW_MANY, FIRST}) {
                works(row, 5, question, beyond, 1);
                works(row, 5, question, 255, 1);
            }
            works(row, 5, HOW_MANY, beyond - 1, 5);
            works(row, 5, FIRST, beyond - 1, 1);
        }
        works("255,0", 5, HOW_MANY, 255, 2);
        works("200,100", 5, HOW_MANY, 227, 2);
        works("200,100", 5, HOW_MANY, 228, 1);
        works("250,100", 5, HOW_MANY, 255, 2);
        works("250,100", 5, FIRST, 255, 2);
    }

    private static void withinTheFrame() {
        works("10,12,14", 5, HOW_MANY, 10, 3);
        works("10,12,14", 5, HOW_MANY, 17, 3);
        works("10,12,14", 5, FIRST, 10, 1);
        works("10,12,14", 5, FIRST, 14, 3);
        works("10,12,14", 5, FIRST, 11, 3);
        works("10,12,14", 5, FIRST, 17, 3);
        works("5*24", 5, HOW_MANY, 5, 24);
        works("5*24", 5, FIRST, 5, 1);
        works("0*23,255", 5, FIRST, 255, 24);
    }
}
