import java.util.Random;

/**
 * What would be, beside what then is: the same column is built anew for each question, and lived on. No answer is
 * written down here; the calls of the document must agree with one another.
 */
public final class LivedTest {
    private static final int COLUMNS = 150;
    private static final Check check = new Check("LivedTest");

    public static void main(String[] args) {
        for (int seed = 0; seed < COLUMNS; seed++) {
            check.under("column " + seed);
            for (int block = 0; block < build(seed).count(0); block++) {
                costAndBest(seed, block);
                work(seed, block);
                regretIn(seed, block);
                gain(seed, block);
                cheapest(seed, block);
                mate(seed, block);
                rowComesBack(seed, block);
            }
            sums(seed);
            daysAtOnce(seed);
            undo(seed);
        }
        check.finish();
    }

    // ---- the columns: at most 300 calls each, so that 200 are left for a question

    private static VowBlocks build(int seed) {
        Random random = new Random(seed);
        VowBlocks x = new VowBlocks();
        for (int i = 0; i < 3; i++) {
            Check.row(x, someRow(random));
        }
        x.set(1, random.nextInt(20));
        for (int i = 0; i < 40; i++) {
            change(x, random);
        }
        return x;
    }

    private static String someRow(Random random) {
        StringBuilder row = new StringBuilder();
        int base = random.nextInt(200);
        int slope = random.nextInt(3);
        for (int i = 0; i < 1 + random.nextInt(10); i++) {
            row.append(i == 0 ? "" : ",").append(base + slope * i + random.nextInt(3));
        }
        return row.toString();
    }

    private static void change(VowBlocks x, Random random) {
        int blocks = x.count(0);
        int block = random.nextInt(blocks);
        int other = random.nextInt(blocks);
        int place = random.nextInt(x.block(block, 0));
        int value = random.nextBoolean() ? random.nextInt(256) : x.value(block, place);
        switch (random.nextInt(10)) {
            case 0: unlessRefused(() -> x.make(value, 1 + place)); break;
            case 1: case 2: x.put(block, place, value); break;
            case 3: case 4: unlessRefused(() -> x.add(block, value)); break;
            case 5: unlessRefused(() -> x.join(block, other)); break;
            case 6: unlessRefused(() -> x.cut(block, place)); break;
            case 7: x.pass(1 + random.nextInt(6)); break;
            case 8: x.set(0, 1 + random.nextInt(random.nextBoolean() ? 20 : 300)); break;
            default: x.ask(block, random.nextInt(3), value); break;
        }
    }

    /** Answers whether the call was not refused. */
    private static boolean unlessRefused(Check.Call call) {
        try {
            call.answer();
            return true;
        } catch (IndexOutOfBoundsException | IllegalArgumentException | IllegalStateException e) {
            return false;
        }
    }

    // ---- what would be

    private static void costAndBest(int seed, int block) {
        VowBlocks x = build(seed);
        int best = 0;
        for (int code = 1; code < 6; code++) {
            best = x.cost(block, code) < x.cost(block, best) ? code : best;
        }
        check.same("the best code of " + block, x.block(block, 8), best);
        check.same("its bits", x.block(block, 9), x.cost(block, best));
        check.same("the bits by its code", x.block(block, 2), x.cost(block, x.block(block, 1)));
        x.breakVow(block);
        check.same("the code behind breakVow", x.block(block, 1), best);
        check.same("the bits behind it", x.block(block, 2), x.cost(block, best));
    }

    private static void work(int seed, int block) {
        VowBlocks x = build(seed);
        for (int question = 0; question < 3; question++) {
            for (int i = 0; i < 4; i++) {
                int v = i < 2 ? x.value(block, i * (x.block(block, 0) - 1)) : (x.value(block, 0) + 2 * i - 5) & 255;
                int due = x.block(block, 5) + x.work(block, x.block(block, 1), question, v);
                x.ask(block, question, v);
                check.same("work behind ask(" + block + ", " + question + ", " + v + ")", x.block(block, 5), due);
            }
        }
    }

    private static void regretIn(int seed, int block) {
        int[] days = {1, 2, 5, 29, 100, 200};
        for (int many : days) {
            VowBlocks x = build(seed);
            int due = x.block(block, 4) + x.regretIn(block, many);
            x.pass(many > 100 ? many - 100 : many);
            if (many > 100) {
                x.pass(100);
            }
            check.same("regrets of " + block + " in " + many + " days", x.block(block, 4), due);
        }
    }

    private static void gain(int seed, int block) {
        VowBlocks x = build(seed);
        int left = Math.max(0, x.setting(0) - (x.count(1) - x.block(block, 3)));
        int regrets = x.regretIn(block, Math.min(200, left));
        int gain = x.gain(block);
        int fine = x.breakVow(block);
        check.same("the fine of " + block, fine, left * x.setting(1));
        check.same("the gain of " + block, gain, regrets - fine);
    }

    private static void cheapest(int seed, int block) {
        int place = build(seed).block(block, 0) / 2;
        int cheapest = build(seed).cheapest(block, place);
        VowBlocks with = build(seed);
        with.put(block, place, cheapest);
        int fewest = with.block(block, 2);
        for (int part = 0; part < 256; part += 64) {
            VowBlocks x = build(seed);
            for (int v = part; v < part + 64; v++) {
                x.put(block, place, v);
                check.holds("cheapest(" + block + ", " + place + ") is " + cheapest + ", not " + v,
                        v < cheapest ? x.block(block, 2) > fewest : x.block(block, 2) >= fewest);
            }
        }
    }

    private static void mate(int seed, int block) {
        int due = VowBlocks.NONE;
        int fewest = 0;
        for (int other = 0; other < build(seed).count(0); other++) {
            VowBlocks x = build(seed);
            int[] number = {0};
            int gone = other;
            int before = x.block(block, 2);
            if (unlessRefused(() -> number[0] = x.join(block, gone))) {
                int more = x.block(number[0], 2) - before;
                if (due == VowBlocks.NONE || more < fewest) {
                    due = other;
                    fewest = more;
                }
            }
        }
        check.same("mate(" + block + ")", build(seed).mate(block), due);
    }

    // ---- what comes to the same

    private static void rowComesBack(int seed, int block) {
        VowBlocks x = build(seed);
        String row = Check.values(x, block);
        int first = x.value(block, x.block(block, 0) - 1);
        check.same("the first one of " + row + ", turned", x.turn(block), first);
        x.turn(block);
        check.holds(row + " turned twice", Check.values(x, block).equals(row));
        int size = x.block(block, 0);
        if (size > 1 && x.count(0) < 8) {
            int behind = x.cut(block, size / 2);
            check.same("the values of both parts of " + row, x.block(block, 0) + x.block(behind, 0), size);
            check.same("the number of the one", x.join(block, behind), block);
            check.holds(row + " cut and joined", Check.values(x, block).equals(row));
        }
        if (size < 24) {
            x.add(block, 77);
            check.same("what was added to " + row, x.take(block, size), 77);
            check.holds(row + " longer and shorter", Check.values(x, block).equals(row));
        }
    }

    private static void sums(int seed) {
        VowBlocks x = build(seed);
        int[] counts = {2, 3, 4, 5, 6, 7};
        int[] properties = {0, 2, 9, 4, 5, 7};
        for (int i = 0; i < counts.length; i++) {
            int sum = 0;
            for (int block = 0; block < x.count(0); block++) {
                sum += x.block(block, properties[i]);
            }
            check.same("count(" + counts[i] + ")", x.count(counts[i]), sum);
        }
        int first = 0;
        for (int block = 0; block < x.count(0); block++) {
            first += x.block(block, 10) == block ? 1 : 0;
        }
        check.same("count(8)", x.count(8), first);
        int coded = 0;
        for (int code = 0; code < 6; code++) {
            coded += x.count(10 + code);
        }
        check.same("blocks with any code", coded, x.count(0));
    }

    /** Days that pass at once are the same as days that pass one by one, but for the saved states. */
    private static void daysAtOnce(int seed) {
        VowBlocks atOnce = build(seed);
        VowBlocks oneByOne = build(seed);
        int days = 1 + seed % 60;
        int regrets = 0;
        for (int i = 0; i < days; i++) {
            regrets += oneByOne.pass(1);
        }
        check.same("the regrets of " + days + " days", atOnce.pass(days), regrets);
        for (int i = 0; i < 6; i++) {
            atOnce.turn(0);
            oneByOne.turn(0);
        }
        check.same("the digest behind " + days + " days", atOnce.digest(), oneByOne.digest());
    }

    /** A call that is undone is as if it had not been, if it dropped no saved state: so there must be room for two. */
    private static void undo(int seed) {
        VowBlocks x = build(seed);
        x.undo();
        x.undo();
        Random random = new Random(seed);
        for (int i = 0; i < 15; i++) {
            long before = x.digest();
            int saved = x.count(9);
            change(x, random);
            x.set(1, 9);
            if (x.count(9) > saved + 1) {
                x.undo();
            }
            x.undo();
            check.same("the digest behind " + i + " calls undone", x.digest(), before);
        }
    }
}
