import java.util.Random;

/** Long runs of calls, always the same ones, each answered by the program and by the model. */
public final class ModelTest {
    private static final int RUNS = 300;
    // What an object answers behind its 512th call is free, so a run ends before that.
    private static final int CALLS = 512;
    private static final int[] ODD = {-1, 8, 24, 25, 60, 256, -2, Integer.MAX_VALUE, Integer.MIN_VALUE};

    private static final Check check = new Check("ModelTest");
    private static int faults = 0;

    private final Random random;
    private final int run;
    private final VowBlocks x = new VowBlocks();
    private final Model model = new Model();
    private int calls = 0;

    private ModelTest(int run) {
        this.run = run;
        random = new Random(run);
    }

    public static void main(String[] args) {
        for (int run = 0; run < RUNS && faults < 10; run++) {
            ModelTest test = new ModelTest(run);
            for (int i = 0; test.calls < CALLS && faults < 10; i++) {
                test.call(i);
            }
        }
        check.finish();
    }

    private void same(String what, long got, long due) {
        faults += got == due ? 0 : 1;
        check.same("run " + run + ": " + what, got, due);
    }

    /** The answer, or for an exception a number that no answer has. */
    private static long told(Check.Call call) {
        try {
            return call.answer();
        } catch (Model.Refusal refusal) {
            return Long.MIN_VALUE + refusal.kind.getName().hashCode();
        } catch (RuntimeException e) {
            return Long.MIN_VALUE + e.getClass().getName().hashCode();
        }
    }

    private void both(String what, Check.Call mine, Check.Call due) {
        // There must be a call left for the digest too.
        if (calls + 2 > CALLS) {
            calls = CALLS;
            return;
        }
        long got = told(mine);
        calls++;
        same(what, got, told(due));
        // The model's digest is dear, so it is asked for seldom; behind a refusal, which must change nothing, more often.
        if (random.nextInt(got < Long.MIN_VALUE / 2 ? 4 : 60) == 0) {
            same("the digest behind " + what, x.digest(), model.digest());
            calls++;
        }
    }

    private int odd(int number) {
        return random.nextInt(40) == 0 ? ODD[random.nextInt(ODD.length)] : number;
    }

    private int block() {
        return odd(random.nextInt(Math.max(1, (int) model.count(0))));
    }

    private int place(int block) {
        int size = block >= 0 && block < model.count(0) ? (int) model.block(block, 0) : 1;
        return odd(random.nextInt(size + (random.nextInt(20) == 0 ? 1 : 0)));
    }

    private int some() {
        switch (random.nextInt(4)) {
            case 0:
                return odd(random.nextInt(256));
            case 1:
                return odd(random.nextInt(3) * 127);
            default:
                return odd(3 + random.nextInt(6));
        }
    }

    private void call(int i) {
        int kind = i < 8 ? random.nextInt(5) : random.nextInt(40);
        if (kind < 20) {
            blocks(kind);
        } else if (kind < 30) {
            days(kind);
        } else {
            views();
        }
    }

    private void blocks(int kind) {
        int b = block();
        int p = place(b);
        int v = some();
        int other = block();
        int many = odd(1 + random.nextInt(random.nextBoolean() ? 4 : 24));
        switch (kind) {
            case 0: case 1: case 2: both("make(" + v + ", " + many + ")", () -> x.make(v, many), () -> model.make(v, many)); break;
            case 3: text(); break;
            case 4: case 5: case 6: both("add(" + b + ", " + v + ")", () -> x.add(b, v), () -> model.add(b, v)); break;
            case 7: case 8: case 9: case 10:
                both("put(" + b + ", " + p + ", " + v + ")", () -> x.put(b, p, v), () -> model.put(b, p, v));
                break;
            case 11: case 12: both("take(" + b + ", " + p + ")", () -> x.take(b, p), () -> model.take(b, p)); break;
            case 13: both("turn(" + b + ")", () -> x.turn(b), () -> model.turn(b)); break;
            case 14: case 15: case 16: both("join(" + b + ", " + other + ")", () -> x.join(b, other), () -> model.join(b, other)); break;
            default: both("cut(" + b + ", " + p + ")", () -> x.cut(b, p), () -> model.cut(b, p)); break;
        }
    }

    private void text() {
        if (random.nextInt(3) > 0) {
            both("clearBuffer()", x::clearBuffer, model::clearBuffer);
        }
        StringBuilder row = new StringBuilder();
        int base = random.nextInt(250);
        int slope = random.nextInt(4) - 1;
        for (int i = random.nextInt(16); i >= 0; i--) {
            int v = slope == 2 ? random.nextInt(300) : Math.max(0, base + slope * i + random.nextInt(2));
            row.append(v).append(random.nextInt(5) == 0 ? "*" + (1 + random.nextInt(9)) : "").append(i > 0 ? "," : "");
        }
        if (random.nextInt(4) == 0) {
            row.insert(random.nextInt(row.length() + 1), "0123456789,*x~".charAt(random.nextInt(14)));
        }
        for (char sign : row.toString().toCharArray()) {
            int code = random.nextInt(200) == 0 ? odd(127) : sign;
            both("append(" + code + ")", () -> x.append(code), () -> model.append(code));
        }
        both("firstError() of " + row, x::firstError, model::firstError);
        both("read() of " + row, x::read, model::read);
    }

    private void days(int kind) {
        int b = block();
        int v = some();
        int days = odd(1 + random.nextInt(random.nextInt(4) == 0 ? 100 : 20));
        int question = odd(random.nextInt(3));
        int setting = odd(random.nextInt(2));
        int value = setting == 1 ? odd(random.nextInt(101)) : odd(1 + random.nextInt(random.nextBoolean() ? 40 : 400));
        switch (kind) {
            case 20: case 21: case 22: both("pass(" + days + ")", () -> x.pass(days), () -> model.pass(days)); break;
            case 23: case 24: both("breakVow(" + b + ")", () -> x.breakVow(b), () -> model.breakVow(b)); break;
            case 25: case 26: case 27:
                both("ask(" + b + ", " + question + ", " + v + ")", () -> x.ask(b, question, v), () -> model.ask(b, question, v));
                break;
            case 28:
                both("set(" + setting + ", " + value + ")", () -> x.set(setting, value), () -> model.set(setting, value));
                break;
            default: both("undo()", x::undo, model::undo); break;
        }
    }

    private void views() {
        int b = block();
        int p = place(b);
        int v = some();
        int what = odd(random.nextInt(16));
        int code = odd(random.nextInt(6));
        int question = odd(random.nextInt(3));
        int days = odd(random.nextInt(201));
        int at = block();
        both("block(" + b + ", " + what + ")", () -> x.block(b, what), () -> model.block(b, what));
        both("value(" + b + ", " + p + ")", () -> x.value(b, p), () -> model.value(b, p));
        both("count(" + what + ")", () -> x.count(what), () -> model.count(what));
        both("setting(" + question + ")", () -> x.setting(question), () -> model.setting(question));
        both("cost(" + b + ", " + code + ")", () -> x.cost(b, code), () -> model.cost(b, code));
        both("work(" + b + ", " + code + ", " + question + ", " + v + ")", () -> x.work(b, code, question, v),
                () -> model.work(b, code, question, v));
        both("regretIn(" + b + ", " + days + ")", () -> x.regretIn(b, days), () -> model.regretIn(b, days));
        both("gain(" + b + ")", () -> x.gain(b), () -> model.gain(b));
        both("cheapest(" + at + ", " + p + ")", () -> x.cheapest(at, p), () -> model.cheapest(at, p));
        both("mate(" + b + ")", () -> x.mate(b), () -> model.mate(b));
        both("the bits of meanBits()", () -> Double.doubleToLongBits(x.meanBits()), () -> Double.doubleToLongBits(model.meanBits()));
    }
}
