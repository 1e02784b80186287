import java.util.ArrayList;
import java.util.Collections;
import java.util.HashSet;
import java.util.List;
import java.util.TreeSet;
import java.util.regex.Pattern;

/**
 * The document once more, written otherwise and without a care for time or room: what the program answers is
 * compared with it. Days ahead are lived on copies, widths are tried one by one, texts are told by a pattern.
 */
final class Model {
    static final class Refusal extends RuntimeException {
        private static final long serialVersionUID = 1;
        final Class<?> kind;

        Refusal(Class<?> kind) {
            this.kind = kind;
        }
    }

    static final class Block {
        List<Integer> row = new ArrayList<>();
        int code;
        int vowed;
        int regrets;
        int worked;
        int questions;
        int fines;
        int choices;

        Block copy() {
            Block b = new Block();
            b.row = new ArrayList<>(row);
            b.code = code;
            b.vowed = vowed;
            b.regrets = regrets;
            b.worked = worked;
            b.questions = questions;
            b.fines = fines;
            b.choices = choices;
            return b;
        }
    }

    static final class State {
        List<Block> blocks = new ArrayList<>();
        int day = 0;
        int[] settings = {30, 4};

        State copy() {
            State s = new State();
            for (Block b : blocks) {
                s.blocks.add(b.copy());
            }
            s.day = day;
            s.settings = settings.clone();
            return s;
        }
    }

    private static final String VALUE = "(0|[1-9][0-9]?|1[0-9][0-9]|2[0-4][0-9]|25[0-5])";
    private static final String PART = VALUE + "([*]([1-9]|1[0-9]|2[0-4]))?";
    private static final Pattern ROW = Pattern.compile(PART + "(," + PART + ")*");

    private static List<Integer> lastRow = new ArrayList<>();
    private static int lastCode = 0;
    private static int lastExcess = 0;

    private State state = new State();
    private final List<State> saved = new ArrayList<>();
    private String buffer = "";

    private static void refuseIf(boolean condition, Class<?> kind) {
        if (condition) {
            throw new Refusal(kind);
        }
    }

    private static boolean out(int number, int least, int greatest) {
        return number < least || number > greatest;
    }

    private Block find(int block) {
        refuseIf(out(block, 0, state.blocks.size() - 1), Check.INDEX);
        return state.blocks.get(block);
    }

    private Block find(int block, int place) {
        Block b = find(block);
        refuseIf(out(place, 0, b.row.size() - 1), Check.INDEX);
        return b;
    }

    private void save() {
        saved.add(state.copy());
        if (saved.size() > 6) {
            saved.remove(0);
        }
    }

    private int open(List<Integer> row) {
        Block b = new Block();
        b.row.addAll(row);
        vow(state, b);
        state.blocks.add(b);
        return state.blocks.size() - 1;
    }

    private static void vow(State s, Block b) {
        b.code = best(b.row);
        b.vowed = s.day;
        b.choices++;
    }

    // ---- the calls

    long make(int value, int many) {
        refuseIf(out(value, 0, 255) || out(many, 1, 24), Check.ARGUMENT);
        refuseIf(state.blocks.size() == 8, Check.STATE);
        save();
        return open(Collections.nCopies(many, value));
    }

    long read() {
        refuseIf(!ROW.matcher(buffer).matches(), Check.ARGUMENT);
        List<Integer> row = new ArrayList<>();
        for (String part : buffer.split(",")) {
            String[] both = part.split("[*]");
            for (int i = 0; i < (both.length == 1 ? 1 : Integer.parseInt(both[1])); i++) {
                row.add(Integer.parseInt(both[0]));
            }
        }
        refuseIf(row.size() > 24, Check.ARGUMENT);
        refuseIf(state.blocks.size() == 8, Check.STATE);
        save();
        buffer = "";
        return open(row);
    }

    long add(int block, int value) {
        Block b = find(block);
        refuseIf(out(value, 0, 255), Check.ARGUMENT);
        refuseIf(b.row.size() == 24, Check.STATE);
        save();
        b.row.add(value);
        return b.row.size();
    }

    long put(int block, int place, int value) {
        Block b = find(block, place);
        refuseIf(out(value, 0, 255), Check.ARGUMENT);
        save();
        return b.row.set(place, value);
    }

    long take(int block, int place) {
        Block b = find(block, place);
        refuseIf(b.row.size() == 1, Check.STATE);
        save();
        return b.row.remove(place);
    }

    long turn(int block) {
        Block b = find(block);
        save();
        Collections.reverse(b.row);
        return b.row.get(0);
    }

    long join(int block, int other) {
        Block b = find(block);
        Block o = find(other);
        refuseIf(b == o, Check.ARGUMENT);
        refuseIf(b.row.size() + o.row.size() > 24, Check.STATE);
        save();
        b.row.addAll(o.row);
        b.regrets += o.regrets;
        b.worked += o.worked;
        b.fines += o.fines;
        state.blocks.remove(o);
        return state.blocks.indexOf(b);
    }

    long cut(int block, int place) {
        Block b = find(block, place);
        refuseIf(place < 1, Check.INDEX);
        refuseIf(state.blocks.size() == 8, Check.STATE);
        save();
        List<Integer> tail = new ArrayList<>(b.row.subList(place, b.row.size()));
        b.row = new ArrayList<>(b.row.subList(0, place));
        return open(tail);
    }

    long pass(int days) {
        refuseIf(out(days, 1, 100), Check.ARGUMENT);
        refuseIf(state.day + days > 5000, Check.STATE);
        save();
        long before = regrets(state);
        live(state, days);
        return regrets(state) - before;
    }

    private static long regrets(State s) {
        long sum = 0;
        for (Block b : s.blocks) {
            sum += b.regrets;
        }
        return sum;
    }

    private static void live(State s, int days) {
        for (int i = 0; i < days; i++) {
            s.day++;
            for (Block b : s.blocks) {
                b.regrets += excess(b);
                if (s.day - b.vowed >= s.settings[0]) {
                    vow(s, b);
                }
            }
        }
    }

    // Days ahead ask the same again and again: what was told last of a row is kept.
    private static int excess(Block b) {
        if (!b.row.equals(lastRow) || b.code != lastCode) {
            lastRow = new ArrayList<>(b.row);
            lastCode = b.code;
            lastExcess = bits(b.row, b.code) - bits(b.row, best(b.row));
        }
        return lastExcess;
    }

    private int left(Block b) {
        int left = 0;
        for (int day = state.day; day < b.vowed + state.settings[0]; day++) {
            left++;
        }
        return left;
    }

    long breakVow(int block) {
        Block b = find(block);
        save();
        int fine = left(b) * state.settings[1];
        b.fines += fine;
        vow(state, b);
        return fine;
    }

    long ask(int block, int question, int v) {
        Block b = find(block);
        refuseIf(out(question, 0, 2) || out(v, 0, 255), Check.ARGUMENT);
        save();
        b.questions++;
        b.worked += effort(b.row, b.code, question, v);
        if (question == 1) {
            return b.row.stream().mapToInt(Integer::intValue).sum();
        }
        return question == 0 ? Collections.frequency(b.row, v) : b.row.indexOf(v);
    }

    long set(int setting, int value) {
        refuseIf(out(setting, 0, 1), Check.INDEX);
        refuseIf(setting == 0 ? out(value, 1, 400) : out(value, 0, 100), Check.ARGUMENT);
        save();
        int previous = state.settings[setting];
        state.settings[setting] = value;
        return previous;
    }

    long append(int code) {
        refuseIf(out(code, 33, 126), Check.ARGUMENT);
        refuseIf(buffer.length() == 60, Check.STATE);
        buffer += (char) code;
        return buffer.length();
    }

    long clearBuffer() {
        int length = buffer.length();
        buffer = "";
        return length;
    }

    // Whatever begins a row becomes one by nothing, a value, or a number behind it.
    long firstError() {
        for (int i = 0; i < buffer.length(); i++) {
            String start = buffer.substring(0, i + 1);
            if (!ROW.matcher(start).matches() && !ROW.matcher(start + "0").matches() && !ROW.matcher(start + "1").matches()) {
                return i;
            }
        }
        return buffer.length();
    }

    long undo() {
        refuseIf(saved.isEmpty(), Check.STATE);
        state = saved.remove(saved.size() - 1);
        return saved.size();
    }

    long block(int block, int what) {
        Block b = find(block);
        refuseIf(out(what, 0, 11), Check.ARGUMENT);
        int alike = 0;
        while (!state.blocks.get(alike).row.equals(b.row)) {
            alike++;
        }
        int best = best(b.row);
        int[] all = {b.row.size(), b.code, bits(b.row, b.code), b.vowed, b.regrets, b.worked, b.questions, b.fines, best,
            bits(b.row, best), alike, b.choices};
        return all[what];
    }

    long value(int block, int place) {
        return find(block, place).row.get(place);
    }

    long count(int what) {
        refuseIf(out(what, 0, 15), Check.ARGUMENT);
        long[] all = new long[16];
        all[0] = state.blocks.size();
        all[1] = state.day;
        all[9] = saved.size();
        List<List<Integer>> rows = new ArrayList<>();
        for (int i = 0; i < state.blocks.size(); i++) {
            all[2] += block(i, 0);
            all[3] += block(i, 2);
            all[4] += block(i, 9);
            all[5] += block(i, 4);
            all[6] += block(i, 5);
            all[7] += block(i, 7);
            all[10 + state.blocks.get(i).code]++;
            rows.add(state.blocks.get(i).row);
        }
        all[8] = new HashSet<>(rows).size();
        return all[what];
    }

    long setting(int setting) {
        refuseIf(out(setting, 0, 1), Check.INDEX);
        return state.settings[setting];
    }

    long cost(int block, int code) {
        Block b = find(block);
        refuseIf(out(code, 0, 5), Check.ARGUMENT);
        return bits(b.row, code);
    }

    long work(int block, int code, int question, int v) {
        Block b = find(block);
        refuseIf(out(code, 0, 5) || out(question, 0, 2) || out(v, 0, 255), Check.ARGUMENT);
        return effort(b.row, code, question, v);
    }

    long regretIn(int block, int days) {
        Block b = find(block);
        refuseIf(out(days, 0, 200), Check.ARGUMENT);
        State ahead = state.copy();
        ahead.blocks.retainAll(List.of(ahead.blocks.get(block)));
        live(ahead, days);
        return ahead.blocks.get(0).regrets - b.regrets;
    }

    long gain(int block) {
        int left = left(find(block));
        return regretIn(block, Math.min(200, left)) - left * state.settings[1];
    }

    long cheapest(int block, int place) {
        Block b = find(block, place);
        TreeSet<Integer> order = new TreeSet<>();
        for (int v = 0; v < 256; v++) {
            List<Integer> row = new ArrayList<>(b.row);
            row.set(place, v);
            order.add(bits(row, b.code) * 256 + v);
        }
        return order.first() % 256;
    }

    long mate(int block) {
        Block b = find(block);
        TreeSet<Integer> order = new TreeSet<>();
        for (int i = 0; i < state.blocks.size(); i++) {
            List<Integer> row = new ArrayList<>(b.row);
            row.addAll(state.blocks.get(i).row);
            if (i != block && row.size() <= 24) {
                order.add(bits(row, b.code) * 8 + i);
            }
        }
        return order.isEmpty() ? -1 : order.first() % 8;
    }

    double meanBits() {
        return count(2) == 0 ? 0.0 : (double) count(3) / count(2);
    }

    long digest() {
        List<Long> all = new ArrayList<>();
        for (int what = 0; what < 16; what++) {
            all.add(count(what));
        }
        all.add(setting(0));
        all.add(setting(1));
        for (int i = 0; i < state.blocks.size(); i++) {
            digestBlock(all, i);
        }
        all.add(Double.doubleToLongBits(meanBits()));
        all.add((long) buffer.length());
        for (int i = 0; i < buffer.length(); i++) {
            all.add((long) buffer.charAt(i));
        }
        long hash = 2441;
        for (long v : all) {
            hash = 31 * hash + v;
        }
        return hash;
    }

    private void digestBlock(List<Long> all, int i) {
        for (int what = 0; what < 12; what++) {
            all.add(block(i, what));
        }
        for (int v : state.blocks.get(i).row) {
            all.add((long) v);
        }
        for (int code = 0; code < 6; code++) {
            all.add(cost(i, code));
        }
        for (int question = 0; question < 3; question += 2) {
            for (int code = 0; code < 6; code++) {
                all.add(work(i, code, question, 3));
            }
        }
        all.add(regretIn(i, 20));
        all.add(gain(i));
        all.add(cheapest(i, 0));
        all.add(mate(i));
    }

    // ---- the codes

    private static int runs(List<Integer> row) {
        int runs = 1;
        for (int i = 1; i < row.size(); i++) {
            runs += row.get(i).equals(row.get(i - 1)) ? 0 : 1;
        }
        return runs;
    }

    private static int common(List<Integer> row) {
        int common = row.get(0);
        for (int v : new TreeSet<>(row)) {
            int more = Collections.frequency(row, v) - Collections.frequency(row, common);
            common = more > 0 || more == 0 && v < common ? v : common;
        }
        return common;
    }

    private static int others(List<Integer> row) {
        return row.size() - Collections.frequency(row, common(row));
    }

    private static int frame(List<Integer> row) {
        int w = 0;
        while (Collections.max(row) - Collections.min(row) >= Math.pow(2, w)) {
            w++;
        }
        return w;
    }

    private static boolean stepsFit(List<Integer> row, int w) {
        for (int i = 1; i < row.size(); i++) {
            int step = row.get(i) - row.get(i - 1);
            if (w == 0 ? step != 0 : step < -Math.pow(2, w - 1) || step >= Math.pow(2, w - 1)) {
                return false;
            }
        }
        return true;
    }

    private static int bits(List<Integer> row, int code) {
        int n = row.size();
        int w = 0;
        switch (code) {
            case 0:
                return 8 * n;
            case 1:
                return 13 * runs(row);
            case 2:
                int d = new TreeSet<>(row).size();
                while (d > Math.pow(2, w)) {
                    w++;
                }
                return 5 + 8 * d + n * w;
            case 3:
                while (!stepsFit(row, w)) {
                    w++;
                }
                return 12 + (n - 1) * w;
            case 4:
                return 8 + n + 8 * others(row);
            default:
                return 12 + n * frame(row);
        }
    }

    private static int best(List<Integer> row) {
        int best = 0;
        for (int code = 5; code >= 0; code--) {
            best = bits(row, code) <= bits(row, best) ? code : best;
        }
        return best;
    }

    private static int effort(List<Integer> row, int code, int question, int v) {
        int n = row.size();
        int d = new TreeSet<>(row).size();
        int place = row.indexOf(v);
        int m = place < 0 ? n : place + 1;
        int whole = question == 2 ? m : n;
        int least = Collections.min(row);
        switch (code) {
            case 1:
                return question == 2 && place >= 0 ? runs(row.subList(0, m)) : runs(row);
            case 2:
                return question == 1 ? d + n : place < 0 ? d : d + whole;
            case 4:
                return question == 2 ? n : question == 0 && v == common(row) ? 1 : 1 + others(row);
            case 5:
                return question != 1 && (v < least || v >= least + Math.pow(2, frame(row))) ? 1 : whole;
            default:
                return whole;
        }
    }
}
