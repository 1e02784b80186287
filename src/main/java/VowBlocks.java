/**
 * Blocks of a column that choose their own code and must live with it for a year.
 * What it must do is told in ../shared/DOC.md; the part of Java it keeps to, in ../shared/LANGUAGE.md.
 */
public final class VowBlocks {
    public static final int NONE = -1;

    private static final int MOST_BLOCKS = 8;
    private static final int MOST_VALUES = 24;
    private static final int GREATEST_VALUE = 255;
    private static final int MOST_SIGNS = 60;
    private static final int MOST_STATES = 6;
    private static final int LAST_DAY = 5000;
    private static final int MOST_DAYS_PASSED = 100;
    private static final int MOST_DAYS_AHEAD = 200;

    private static final int YEAR = 0;
    private static final int FINE = 1;
    private static final int LONGEST_YEAR = 400;
    private static final int GREATEST_FINE = 100;

    private static final int CODES = 6;
    private static final int QUESTIONS = 3;
    private static final int PROPERTIES = 12;
    private static final int COUNTS = 16;

    private final Column column;
    private final History history;
    private final RowText text;
    // Rows that are only tried are built here, so that no call has to make one.
    private final Row trial;

    public VowBlocks() {
        column = new Column();
        history = new History();
        text = new RowText();
        trial = new Row();
    }

    // ---- blocks, values

    public int make(int value, int many) throws IllegalArgumentException, IllegalStateException {
        requireValue(value);
        requireWithin(many, 1, MOST_VALUES);
        requireRoomForBlock();
        trial.clear();
        trial.push(value, many);
        history.save(column);
        return column.open(trial);
    }

    public int read() throws IllegalArgumentException, IllegalStateException {
        if (!text.spell(trial)) {
            throw new IllegalArgumentException("the buffer is not a row of 1 to 24 values");
        }
        requireRoomForBlock();
        history.save(column);
        text.empty();
        return column.open(trial);
    }

    public int add(int block, int value)
            throws IndexOutOfBoundsException, IllegalArgumentException, IllegalStateException {
        Row row = find(block).row;
        requireValue(value);
        if (!row.hasRoomFor(1)) {
            throw new IllegalStateException("the block has 24 values");
        }
        history.save(column);
        row.push(value, 1);
        return row.size();
    }

    public int put(int block, int place, int value) throws IndexOutOfBoundsException, IllegalArgumentException {
        Row row = findWithPlace(block, place).row;
        requireValue(value);
        history.save(column);
        int previous = row.at(place);
        row.replace(place, value);
        return previous;
    }

    public int take(int block, int place) throws IndexOutOfBoundsException, IllegalStateException {
        Row row = findWithPlace(block, place).row;
        if (row.size() <= 1) {
            throw new IllegalStateException("the block has one value alone");
        }
        history.save(column);
        int taken = row.at(place);
        row.remove(place);
        return taken;
    }

    public int turn(int block) throws IndexOutOfBoundsException {
        Row row = find(block).row;
        history.save(column);
        row.reverse();
        return row.at(0);
    }

    public int join(int block, int other)
            throws IndexOutOfBoundsException, IllegalArgumentException, IllegalStateException {
        Block one = find(block);
        Block gone = find(other);
        if (block == other) {
            throw new IllegalArgumentException("a block is not joined with itself");
        }
        if (!one.row.hasRoomFor(gone.row.size())) {
            throw new IllegalStateException("there would be more than 24 values");
        }
        history.save(column);
        one.absorb(gone);
        column.drop(other);
        return other < block ? block - 1 : block;
    }

    public int cut(int block, int place) throws IndexOutOfBoundsException, IllegalStateException {
        Row row = findWithPlace(block, place).row;
        if (place < 1) {
            throw new IndexOutOfBoundsException("the first value stays");
        }
        requireRoomForBlock();
        history.save(column);
        trial.clear();
        trial.pushTail(row, place);
        row.shorten(place);
        return column.open(trial);
    }

    // ---- days, vows, questions

    public int pass(int days) throws IllegalArgumentException, IllegalStateException {
        requireWithin(days, 1, MOST_DAYS_PASSED);
        if (column.day + days > LAST_DAY) {
            throw new IllegalStateException("the day would be above 5000");
        }
        history.save(column);
        int regrets = 0;
        for (int i = 0; i < days; i++) {
            regrets += column.liveDay();
        }
        return regrets;
    }

    public int breakVow(int block) throws IndexOutOfBoundsException {
        Block one = find(block);
        history.save(column);
        int due = fineOf(one);
        one.fines += due;
        one.vow(column.day);
        return due;
    }

    public int ask(int block, int question, int v) throws IndexOutOfBoundsException, IllegalArgumentException {
        Block one = find(block);
        requireQuestion(question, v);
        history.save(column);
        one.questions++;
        one.worked += Codes.effort(one.row, one.code, question, v);
        return Codes.answer(one.row, question, v);
    }

    public int set(int setting, int value) throws IndexOutOfBoundsException, IllegalArgumentException {
        int previous = settingAt(setting);
        if (setting == YEAR) {
            requireWithin(value, 1, LONGEST_YEAR);
        } else {
            requireWithin(value, 0, GREATEST_FINE);
        }
        history.save(column);
        if (setting == YEAR) {
            column.year = value;
        } else {
            column.fine = value;
        }
        return previous;
    }

    // ---- texts

    public int append(int code) throws IllegalArgumentException, IllegalStateException {
        requireWithin(code, 33, 126);
        if (text.isFull()) {
            throw new IllegalStateException("the buffer has 60 characters");
        }
        text.push(code);
        return text.length();
    }

    public int clearBuffer() {
        int length = text.length();
        text.empty();
        return length;
    }

    public int firstError() {
        return text.errorPlace();
    }

    public int undo() throws IllegalStateException {
        if (history.size() == 0) {
            throw new IllegalStateException("no state is saved");
        }
        history.restore(column);
        return history.size();
    }

    // ---- what there is

    public int block(int block, int what) throws IndexOutOfBoundsException, IllegalArgumentException {
        Block one = find(block);
        requireWithin(what, 0, PROPERTIES - 1);
        return propertyOf(one, what);
    }

    public int value(int block, int place) throws IndexOutOfBoundsException {
        return findWithPlace(block, place).row.at(place);
    }

    public int count(int what) throws IllegalArgumentException {
        requireWithin(what, 0, COUNTS - 1);
        return countOf(what);
    }

    public int setting(int setting) throws IndexOutOfBoundsException {
        return settingAt(setting);
    }

    // ---- what would be; nothing is changed

    public int cost(int block, int code) throws IndexOutOfBoundsException, IllegalArgumentException {
        Block one = find(block);
        requireWithin(code, 0, CODES - 1);
        return Codes.bits(one.row, code);
    }

    public int work(int block, int code, int question, int v)
            throws IndexOutOfBoundsException, IllegalArgumentException {
        Block one = find(block);
        requireWithin(code, 0, CODES - 1);
        requireQuestion(question, v);
        return Codes.effort(one.row, code, question, v);
    }

    public int regretIn(int block, int days) throws IndexOutOfBoundsException, IllegalArgumentException {
        Block one = find(block);
        requireWithin(days, 0, MOST_DAYS_AHEAD);
        return regretOf(one, days);
    }

    public int gain(int block) throws IndexOutOfBoundsException {
        return gainOf(find(block));
    }

    public int cheapest(int block, int place) throws IndexOutOfBoundsException {
        return cheapestValue(findWithPlace(block, place), place);
    }

    public int mate(int block) throws IndexOutOfBoundsException {
        return mateOf(find(block));
    }

    public double meanBits() {
        int values = sumOf(0);
        return values == 0 ? 0.0 : (double) sumOf(2) / (double) values;
    }

    public long digest() {
        long hash = 2441L;
        for (int what = 0; what < COUNTS; what++) {
            hash = mix(hash, countOf(what));
        }
        hash = mix(hash, column.year);
        hash = mix(hash, column.fine);
        for (int i = 0; i < column.size(); i++) {
            hash = mixBlock(hash, column.at(i));
        }
        hash = mix(hash, doubleBits(meanBits()));
        hash = mix(hash, text.length());
        for (int i = 0; i < text.length(); i++) {
            hash = mix(hash, text.codeAt(i));
        }
        return hash;
    }

    // ---- the looks at arguments

    private Block find(int number) {
        if (!column.has(number)) {
            throw new IndexOutOfBoundsException("no such block");
        }
        return column.at(number);
    }

    private Block findWithPlace(int number, int place) {
        Block one = find(number);
        if (!one.row.has(place)) {
            throw new IndexOutOfBoundsException("no such place");
        }
        return one;
    }

    private int settingAt(int setting) {
        if (setting != YEAR && setting != FINE) {
            throw new IndexOutOfBoundsException("no such setting");
        }
        return setting == YEAR ? column.year : column.fine;
    }

    private void requireRoomForBlock() {
        if (column.isFull()) {
            throw new IllegalStateException("there are 8 blocks");
        }
    }

    private static void requireWithin(int number, int least, int greatest) {
        if (number < least || number > greatest) {
            throw new IllegalArgumentException("an argument is out of range");
        }
    }

    private static void requireValue(int value) {
        requireWithin(value, 0, GREATEST_VALUE);
    }

    private static void requireQuestion(int question, int v) {
        requireWithin(question, 0, QUESTIONS - 1);
        requireValue(v);
    }

    // ---- what is told of blocks

    private int propertyOf(Block one, int what) {
        switch (what) {
            case 0: return one.row.size();
            case 1: return one.code;
            case 2: return Codes.bits(one.row, one.code);
            case 3: return one.vowed;
            case 4: return one.regrets;
            case 5: return one.worked;
            case 6: return one.questions;
            case 7: return one.fines;
            case 8: return Codes.best(one.row);
            case 9: return Codes.bits(one.row, Codes.best(one.row));
            case 10: return column.firstAlike(one.row);
            default: return one.choices;
        }
    }

    private int countOf(int what) {
        switch (what) {
            case 0: return column.size();
            case 1: return column.day;
            case 2: return sumOf(0);
            case 3: return sumOf(2);
            case 4: return sumOf(9);
            case 5: return sumOf(4);
            case 6: return sumOf(5);
            case 7: return sumOf(7);
            case 8: return column.differentRows();
            case 9: return history.size();
            default: return column.blocksWithCode(what - 10);
        }
    }

    private int sumOf(int property) {
        int sum = 0;
        for (int i = 0; i < column.size(); i++) {
            sum += propertyOf(column.at(i), property);
        }
        return sum;
    }

    private int fineOf(Block one) {
        return column.fine * one.daysLeft(column.day, column.year);
    }

    // A block regrets on the day of its new choice too, and on no day after it: the row does not change.
    private int regretOf(Block one, int days) {
        int untilChoice = Math.max(1, one.daysLeft(column.day, column.year));
        return one.excess() * Math.min(days, untilChoice);
    }

    // In the days that are left of a vow nothing is chosen before the last one, so it regrets in all of them.
    private int gainOf(Block one) {
        int left = one.daysLeft(column.day, column.year);
        return one.excess() * Math.min(left, MOST_DAYS_AHEAD) - fineOf(one);
    }

    private int cheapestValue(Block one, int place) {
        trial.copyFrom(one.row);
        trial.replace(place, 0);
        int cheapest = 0;
        int fewest = Codes.bits(trial, one.code);
        for (int v = 1; v <= GREATEST_VALUE; v++) {
            trial.replace(place, v);
            int bits = Codes.bits(trial, one.code);
            if (bits < fewest) {
                fewest = bits;
                cheapest = v;
            }
        }
        return cheapest;
    }

    private int mateOf(Block one) {
        int mate = NONE;
        int fewest = 0;
        for (int i = 0; i < column.size(); i++) {
            Block other = column.at(i);
            if (other != one && one.row.hasRoomFor(other.row.size())) {
                trial.copyFrom(one.row);
                trial.pushTail(other.row, 0);
                // What the block costs now is the same beside every other one, so the sum decides alone.
                int bits = Codes.bits(trial, one.code);
                if (mate == NONE || bits < fewest) {
                    fewest = bits;
                    mate = i;
                }
            }
        }
        return mate;
    }

    // ---- the digest

    private static long mix(long hash, long v) {
        return 31L * hash + v;
    }

    private long mixBlock(long before, Block one) {
        long hash = before;
        for (int what = 0; what < PROPERTIES; what++) {
            hash = mix(hash, propertyOf(one, what));
        }
        for (int place = 0; place < one.row.size(); place++) {
            hash = mix(hash, one.row.at(place));
        }
        for (int code = 0; code < CODES; code++) {
            hash = mix(hash, Codes.bits(one.row, code));
        }
        for (int code = 0; code < CODES; code++) {
            hash = mix(hash, Codes.effort(one.row, code, 0, 3));
        }
        for (int code = 0; code < CODES; code++) {
            hash = mix(hash, Codes.effort(one.row, code, 2, 3));
        }
        hash = mix(hash, regretOf(one, 20));
        hash = mix(hash, gainOf(one));
        hash = mix(hash, cheapestValue(one, 0));
        return mix(hash, mateOf(one));
    }

    // Double.doubleToLongBits is outside the language; halving and doubling are exact, so this finds the same bits.
    private static long doubleBits(double number) {
        if (!(number > 0.0)) {
            return 0L;
        }
        double fraction = number;
        long exponent = 1023L;
        for (int i = 0; i < 1023 && fraction >= 2.0; i++) {
            fraction = fraction / 2.0;
            exponent++;
        }
        for (int i = 0; i < 1022 && fraction < 1.0; i++) {
            fraction = fraction * 2.0;
            exponent--;
        }
        return (exponent << 52) + (long) ((fraction - 1.0) * 4503599627370496.0);
    }

    /** The values of a block, 0 to 24 of them. The size never leaves the array: it grows only where there is room. */
    private static final class Row {
        private final int[] values = new int[MOST_VALUES];
        private int size = 0;

        int size() {
            return size;
        }

        boolean has(int place) {
            return place >= 0 && place < size;
        }

        boolean hasRoomFor(int many) {
            return many <= values.length - size;
        }

        int at(int place) {
            return has(place) ? values[place] : NONE;
        }

        void clear() {
            size = 0;
        }

        /** Appends a value some times, or nothing, and answers false, where there is no room for all. */
        boolean push(int value, int many) {
            if (!hasRoomFor(many)) {
                return false;
            }
            for (int i = 0; i < many; i++) {
                values[size] = value;
                size++;
            }
            return true;
        }

        void pushTail(Row other, int from) {
            for (int i = from; i < other.size; i++) {
                push(other.at(i), 1);
            }
        }

        void copyFrom(Row other) {
            size = other.size;
            for (int i = 0; i < size; i++) {
                values[i] = other.values[i];
            }
        }

        void replace(int place, int value) {
            if (has(place)) {
                values[place] = value;
            }
        }

        void remove(int place) {
            if (has(place)) {
                for (int i = place; i + 1 < size; i++) {
                    values[i] = values[i + 1];
                }
                size--;
            }
        }

        void shorten(int newSize) {
            if (has(newSize)) {
                size = newSize;
            }
        }

        void reverse() {
            for (int i = 0; i < size - 1 - i; i++) {
                int front = values[i];
                values[i] = values[size - 1 - i];
                values[size - 1 - i] = front;
            }
        }

        boolean isLike(Row other) {
            if (size != other.size) {
                return false;
            }
            for (int i = 0; i < size; i++) {
                if (values[i] != other.values[i]) {
                    return false;
                }
            }
            return true;
        }

        int firstPlace(int v) {
            for (int i = 0; i < size; i++) {
                if (values[i] == v) {
                    return i;
                }
            }
            return NONE;
        }

        int timesOf(int v) {
            int times = 0;
            for (int i = 0; i < size; i++) {
                if (values[i] == v) {
                    times++;
                }
            }
            return times;
        }

        int sum() {
            int sum = 0;
            for (int i = 0; i < size; i++) {
                sum += values[i];
            }
            return sum;
        }

        int least() {
            int least = GREATEST_VALUE;
            for (int i = 0; i < size; i++) {
                least = Math.min(least, values[i]);
            }
            return least;
        }

        /** The runs among the first values, the last one perhaps not whole. */
        int runsAmong(int many) {
            int runs = 0;
            for (int i = 0; i < many && i < size; i++) {
                if (i == 0 || values[i] != values[i - 1]) {
                    runs++;
                }
            }
            return runs;
        }

        int differentValues() {
            int different = 0;
            for (int i = 0; i < size; i++) {
                int j = 0;
                while (j < i && values[j] != values[i]) {
                    j++;
                }
                if (j == i) {
                    different++;
                }
            }
            return different;
        }

        /** How many of the values are the common one. */
        int mostTimes() {
            int most = 0;
            for (int i = 0; i < size; i++) {
                int times = 0;
                // At the first place of a value all of its places are counted; at a later one too few do no harm.
                for (int j = i; j < size; j++) {
                    if (values[j] == values[i]) {
                        times++;
                    }
                }
                if (times > most) {
                    most = times;
                }
            }
            return most;
        }

        int commonValue() {
            int most = mostTimes();
            int common = GREATEST_VALUE;
            for (int i = 0; i < size; i++) {
                if (timesOf(values[i]) == most) {
                    common = Math.min(common, values[i]);
                }
            }
            return common;
        }

        /** How many numbers there are from the least value to the greatest one, both counted. */
        int span() {
            int least = GREATEST_VALUE;
            int greatest = 0;
            for (int i = 0; i < size; i++) {
                if (values[i] < least) {
                    least = values[i];
                }
                if (values[i] > greatest) {
                    greatest = values[i];
                }
            }
            return greatest - least + 1;
        }

        /**
         * How many numbers a width must tell apart so that it holds every step, 0 in the midst of them:
         * as many below it as from it on. Equal values alone have one step, which needs no bit.
         */
        int spanOfSteps() {
            int half = 0;
            for (int i = 1; i < size; i++) {
                int step = values[i] - values[i - 1];
                int needed = step > 0 ? step + 1 : -step;
                if (needed > half) {
                    half = needed;
                }
            }
            return half == 0 ? 1 : 2 * half;
        }
    }

    /** What rows cost by the codes, and what questions cost by them. */
    private static final class Codes {
        private static final int PLAIN = 0;
        private static final int RUNS = 1;
        private static final int TABLE = 2;
        private static final int STEPS = 3;
        private static final int COMMON = 4;

        private static final int HOW_MANY = 0;
        private static final int SUM = 1;
        private static final int FIRST = 2;

        static int bits(Row row, int code) {
            int n = row.size();
            switch (code) {
                case PLAIN: return 8 * n;
                case RUNS: return 13 * row.runsAmong(n);
                case TABLE: {
                    int different = row.differentValues();
                    return 5 + 8 * different + n * widthFor(different);
                }
                case STEPS: return 12 + (n - 1) * widthFor(row.spanOfSteps());
                case COMMON: return 8 + n + 8 * (n - row.mostTimes());
                default: return 12 + n * widthFor(row.span());
            }
        }

        static int best(Row row) {
            int best = PLAIN;
            int fewest = bits(row, PLAIN);
            for (int code = PLAIN + 1; code < CODES; code++) {
                int bits = bits(row, code);
                if (bits < fewest) {
                    fewest = bits;
                    best = code;
                }
            }
            return best;
        }

        static int answer(Row row, int question, int v) {
            switch (question) {
                case HOW_MANY: return row.timesOf(v);
                case SUM: return row.sum();
                default: return row.firstPlace(v);
            }
        }

        /** The work of a question by a code. */
        static int effort(Row row, int code, int question, int v) {
            switch (code) {
                case RUNS: return row.runsAmong(question == FIRST ? reach(row, v) : row.size());
                case TABLE: return tableEffort(row, question, v);
                case COMMON: return commonEffort(row, question, v);
                case PLAIN:
                case STEPS: return rowEffort(row, question, v);
                default: return frameEffort(row, question, v);
            }
        }

        private static int tableEffort(Row row, int question, int v) {
            int different = row.differentValues();
            boolean isThere = row.firstPlace(v) != NONE;
            return question == SUM || isThere ? different + rowEffort(row, question, v) : different;
        }

        private static int commonEffort(Row row, int question, int v) {
            if (question == FIRST) {
                return row.size();
            }
            boolean isCommon = question == HOW_MANY && v == row.commonValue();
            return isCommon ? 1 : 1 + row.size() - row.mostTimes();
        }

        private static int frameEffort(Row row, int question, int v) {
            int least = row.least();
            boolean isOutside = v < least || v >= least + (1 << widthFor(row.span()));
            return question != SUM && isOutside ? 1 : rowEffort(row, question, v);
        }

        private static int rowEffort(Row row, int question, int v) {
            return question == FIRST ? reach(row, v) : row.size();
        }

        /** How many values are seen until the first v is found, or known to be missing. */
        private static int reach(Row row, int v) {
            int place = row.firstPlace(v);
            return place == NONE ? row.size() : place + 1;
        }

        /** The least w with many at most 2 to the w; many is at most 512 here. */
        private static int widthFor(int many) {
            int width = 0;
            while (width < 9 && (1 << width) < many) {
                width++;
            }
            return width;
        }
    }

    /** A row with its vow, and what is counted of it. */
    private static final class Block {
        final Row row = new Row();
        int code = 0;
        int vowed = 0;
        int regrets = 0;
        int worked = 0;
        int questions = 0;
        int fines = 0;
        int choices = 0;

        void begin(Row values, int day) {
            row.copyFrom(values);
            regrets = 0;
            worked = 0;
            questions = 0;
            fines = 0;
            choices = 0;
            vow(day);
        }

        void copyFrom(Block other) {
            row.copyFrom(other.row);
            code = other.code;
            vowed = other.vowed;
            regrets = other.regrets;
            worked = other.worked;
            questions = other.questions;
            fines = other.fines;
            choices = other.choices;
        }

        void vow(int day) {
            code = Codes.best(row);
            vowed = day;
            choices++;
        }

        void absorb(Block other) {
            row.pushTail(other.row, 0);
            regrets += other.regrets;
            worked += other.worked;
            fines += other.fines;
        }

        /** The bits by which its code costs more than its best one. */
        int excess() {
            return Codes.bits(row, code) - Codes.bits(row, Codes.best(row));
        }

        int daysLeft(int day, int year) {
            return Math.max(0, year - (day - vowed));
        }

        /** Answers what is regretted on this day. */
        int liveDay(int day, int year) {
            int regret = excess();
            regrets += regret;
            if (daysLeft(day, year) == 0) {
                vow(day);
            }
            return regret;
        }
    }

    /** All that undo brings back. The blocks from size on wait for their use. */
    private static final class Column {
        private final Block[] blocks = new Block[MOST_BLOCKS];
        private int size = 0;
        int day = 0;
        int year = 30;
        int fine = 4;

        Column() {
            for (int i = 0; i < blocks.length; i++) {
                blocks[i] = new Block();
            }
        }

        int size() {
            return size;
        }

        boolean has(int number) {
            return number >= 0 && number < size;
        }

        boolean isFull() {
            return size >= blocks.length;
        }

        /** The number must be that of a block. */
        Block at(int number) {
            return blocks[has(number) ? number : 0];
        }

        /** Makes a block of a row, and answers its number; there must be room. */
        int open(Row row) {
            if (isFull()) {
                return NONE;
            }
            blocks[size].begin(row, day);
            size++;
            return size - 1;
        }

        void drop(int number) {
            if (!has(number)) {
                return;
            }
            Block gone = blocks[number];
            for (int i = number; i + 1 < size; i++) {
                blocks[i] = blocks[i + 1];
            }
            size--;
            blocks[size] = gone;
        }

        void copyFrom(Column other) {
            size = other.size;
            day = other.day;
            year = other.year;
            fine = other.fine;
            for (int i = 0; i < size; i++) {
                blocks[i].copyFrom(other.blocks[i]);
            }
        }

        /** Answers what all blocks regret on the new day. */
        int liveDay() {
            day++;
            int regrets = 0;
            for (int i = 0; i < size; i++) {
                regrets += blocks[i].liveDay(day, year);
            }
            return regrets;
        }

        int firstAlike(Row row) {
            for (int i = 0; i < size; i++) {
                if (blocks[i].row.isLike(row)) {
                    return i;
                }
            }
            return NONE;
        }

        int differentRows() {
            int different = 0;
            for (int i = 0; i < size; i++) {
                if (firstAlike(blocks[i].row) == i) {
                    different++;
                }
            }
            return different;
        }

        int blocksWithCode(int code) {
            int many = 0;
            for (int i = 0; i < size; i++) {
                if (blocks[i].code == code) {
                    many++;
                }
            }
            return many;
        }
    }

    /** The saved states, the oldest one first. */
    private static final class History {
        private final Column[] states = new Column[MOST_STATES];
        private int size = 0;

        History() {
            for (int i = 0; i < states.length; i++) {
                states[i] = new Column();
            }
        }

        int size() {
            return size;
        }

        void save(Column column) {
            if (size >= states.length) {
                dropOldest();
            }
            states[size].copyFrom(column);
            size++;
        }

        // The dropped one is used again behind the others.
        private void dropOldest() {
            Column oldest = states[0];
            for (int i = 0; i + 1 < states.length; i++) {
                states[i] = states[i + 1];
            }
            size = states.length - 1;
            states[size] = oldest;
        }

        void restore(Column column) {
            if (size > 0) {
                size--;
                column.copyFrom(states[size]);
            }
        }
    }

    /** The buffer, and the reading of a row in it. */
    private static final class RowText {
        private static final int PART_START = 0;
        private static final int IN_VALUE = 1;
        private static final int TIMES_START = 2;
        private static final int IN_TIMES = 3;

        private final int[] signs = new int[MOST_SIGNS];
        private int length = 0;
        private int mode = PART_START;
        private int value = 0;
        private int times = 1;

        int length() {
            return length;
        }

        boolean isFull() {
            return length >= signs.length;
        }

        int codeAt(int index) {
            return index >= 0 && index < length ? signs[index] : NONE;
        }

        void push(int code) {
            if (!isFull()) {
                signs[length] = code;
                length++;
            }
        }

        void empty() {
            length = 0;
        }

        int errorPlace() {
            mode = PART_START;
            for (int i = 0; i < length; i++) {
                if (!accept(signs[i])) {
                    return i;
                }
            }
            return length;
        }

        /** Fills a row with the values of the text; answers false if it is not a complete row of at most 24. */
        boolean spell(Row row) {
            row.clear();
            mode = PART_START;
            for (int i = 0; i < length; i++) {
                if (signs[i] == ',' && !endPart(row)) {
                    return false;
                }
                if (!accept(signs[i])) {
                    return false;
                }
            }
            return endPart(row);
        }

        private boolean endPart(Row row) {
            return partIsWhole() && row.push(value, times);
        }

        private boolean partIsWhole() {
            return mode == IN_VALUE || mode == IN_TIMES;
        }

        /** Goes on by one character; answers false if it is a syntax error, and reading ends there. */
        private boolean accept(int sign) {
            if (sign >= '0' && sign <= '9') {
                return acceptDigit(sign - '0');
            }
            if (sign == ',' && partIsWhole()) {
                mode = PART_START;
                return true;
            }
            if (sign == '*' && mode == IN_VALUE) {
                mode = TIMES_START;
                return true;
            }
            return false;
        }

        private boolean acceptDigit(int digit) {
            switch (mode) {
                case PART_START:
                    mode = IN_VALUE;
                    value = digit;
                    times = 1;
                    return true;
                case IN_VALUE:
                    value = 10 * value + digit;
                    // Below 10 with two digits there was a leading zero.
                    return value >= 10 && value <= GREATEST_VALUE;
                case TIMES_START:
                    mode = IN_TIMES;
                    times = digit;
                    return times >= 1;
                default:
                    times = 10 * times + digit;
                    return times <= MOST_VALUES;
            }
        }
    }
}
