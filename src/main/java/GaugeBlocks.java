/** Gauge blocks that are wrung into stacks. The document shared/DOC.md says what each call promises. */
public final class GaugeBlocks {
    public static final int NONE = -1;

    private static final int BLOCKS_MAX = 20;
    private static final int STACKS = 3;
    private static final int STACK_MAX = 6;
    private static final int NOMINAL_MIN = 500;
    private static final int NOMINAL_MAX = 100000;
    private static final int LENGTH_MAX = STACK_MAX * NOMINAL_MAX;
    private static final int DIGITS_MAX = 6;
    private static final int DEVIATION_MAX = 900;
    private static final int WARMTH_MAX = 1000;
    private static final int WARMTH_OF_A_SECOND = 5;
    private static final int SECONDS_MAX = 60;
    private static final int MINUTES_MAX = 60;
    private static final int MINUTES_AHEAD_MAX = 600;
    private static final int ERROR_SHIFT = 10000;
    private static final int WORST_GRADE = 3;
    private static final int SAVED_MAX = 6;
    private static final int SLOTS = 2;
    private static final int BUFFER_MAX = 60;
    private static final int SIGN_MIN = 33;
    private static final int SIGN_MAX = 126;

    private static final int FILM = 0;
    private static final int WARMEST_TO_WRING = 1;
    private static final int WEAR_OF_WRINGING = 2;
    private static final int WARMTH_OF_A_HAND = 3;
    private static final int SETTINGS = 4;
    private static final int[] SETTINGS_AT_FIRST = {10, 300, 3, 40};
    private static final int[] SETTINGS_MAX = {60, 1000, 20, 200};

    private static final int BY_LENGTH = 0;
    private static final int BY_WARMTH = 1;
    private static final int BY_ERROR = 2;

    private static final int ACCEPTED = 0;
    private static final int NOT_FREE = 1;
    private static final int STACK_FULL = 2;
    private static final int TOO_WARM = 3;
    private static final int TOO_BAD = 4;

    private final State state = new State();
    private final SavedStates saved = new SavedStates();
    private final State[] snapshots = new State[SLOTS];
    private final OrderText text = new OrderText();

    public GaugeBlocks() {
    }

    // ---- blocks

    public int block(int nominal, int deviation) throws IllegalArgumentException, IllegalStateException {
        checkRange(nominal, NOMINAL_MIN, NOMINAL_MAX);
        checkRange(deviation, -DEVIATION_MAX, DEVIATION_MAX);
        if (state.isFull()) {
            throw new IllegalStateException("there are 20 blocks");
        }
        saved.push(state);
        return state.addBlock(nominal, deviation);
    }

    public int discard(int block) throws IndexOutOfBoundsException, IllegalStateException {
        checkBlock(block);
        checkFree(block);
        saved.push(state);
        state.removeBlock(block);
        return state.blocks;
    }

    public int calibrate(int block) throws IndexOutOfBoundsException, IllegalStateException {
        checkBlock(block);
        checkFree(block);
        saved.push(state);
        state.turnWearIntoDeviation(block);
        return state.gradeOf(block);
    }

    public int hold(int block, int seconds) throws IndexOutOfBoundsException, IllegalArgumentException {
        checkBlock(block);
        checkRange(seconds, 1, SECONDS_MAX);
        saved.push(state);
        state.warm(block, seconds * WARMTH_OF_A_SECOND);
        return state.warmth[block];
    }

    public int rest(int minutes) throws IllegalArgumentException {
        checkRange(minutes, 1, MINUTES_MAX);
        saved.push(state);
        state.letPass(minutes);
        return state.greatestWarmth();
    }

    public int set(int setting, int value) throws IndexOutOfBoundsException, IllegalArgumentException {
        checkSetting(setting);
        checkRange(value, 0, SETTINGS_MAX[setting]);
        saved.push(state);
        int previous = state.settings[setting];
        state.settings[setting] = value;
        return previous;
    }

    // ---- stacks

    public int wring(int stack, int block) throws IndexOutOfBoundsException {
        checkStack(stack);
        checkBlock(block);
        saved.push(state);
        return state.tryToWring(stack, block);
    }

    public int takeOff(int stack) throws IndexOutOfBoundsException, IllegalStateException {
        checkStack(stack);
        if (state.heightOf(stack) == 0) {
            throw new IllegalStateException("the stack is empty");
        }
        saved.push(state);
        return state.takeTopOff(stack);
    }

    public int make(int stack, int length)
            throws IndexOutOfBoundsException, IllegalArgumentException, IllegalStateException {
        checkStack(stack);
        checkLength(length);
        if (state.heightOf(stack) != 0) {
            throw new IllegalStateException("the stack is not empty");
        }
        saved.push(state);
        int set = Finder.fewestFor(state, length);
        return set == 0 ? NONE : state.wringSet(stack, set);
    }

    // ---- order text

    public int append(int code) throws IllegalArgumentException, IllegalStateException {
        checkRange(code, SIGN_MIN, SIGN_MAX);
        if (text.length >= BUFFER_MAX) {
            throw new IllegalStateException("the buffer is full");
        }
        text.addSign(code);
        return text.length;
    }

    public int clearBuffer() {
        int length = text.length;
        text.length = 0;
        return length;
    }

    public int firstError() {
        text.readAll();
        return text.at;
    }

    public int execute() throws IllegalArgumentException {
        if (!text.readAll()) {
            throw new IllegalArgumentException("the buffer is not a complete order text");
        }
        saved.push(state);
        int executed = 0;
        text.at = 0;
        while (executed < BUFFER_MAX && text.readOrder() && carryOut(text.letter, text.first, text.second)) {
            executed++;
            text.readSign(OrderText.SEPARATOR);
        }
        text.length = 0;
        return executed;
    }

    private boolean carryOut(int letter, int first, int second) {
        switch (letter) {
            case 'b':
                return state.addBlock(first, 0) != NONE;
            case 'w':
                return state.hasBlock(second) && state.tryToWring(first, second) == ACCEPTED;
            case 'u':
                return state.takeTopOff(first) != NONE;
            case 'h':
                if (!state.hasBlock(first)) {
                    return false;
                }
                state.warm(first, second * WARMTH_OF_A_SECOND);
                return true;
            case 'r':
                state.letPass(first);
                return true;
            default:
                return false;
        }
    }

    // ---- undo and snapshots

    public int undo() throws IllegalStateException {
        if (saved.many == 0) {
            throw new IllegalStateException("no state is saved");
        }
        saved.popInto(state);
        return saved.many;
    }

    public int keep(int slot) throws IllegalArgumentException {
        checkRange(slot, 0, SLOTS - 1);
        State snapshot = snapshots[slot];
        if (snapshot == null) {
            snapshot = new State();
            snapshots[slot] = snapshot;
        }
        snapshot.copyFrom(state);
        return state.blocks;
    }

    public int goBack(int slot) throws IllegalArgumentException, IllegalStateException {
        checkRange(slot, 0, SLOTS - 1);
        State snapshot = snapshots[slot];
        if (snapshot == null) {
            throw new IllegalStateException("the slot is empty");
        }
        saved.push(state);
        state.copyFrom(snapshot);
        return state.blocks;
    }

    // ---- queries about blocks and stacks; nothing changes

    public int blockOf(int block, int what) throws IndexOutOfBoundsException, IllegalArgumentException {
        checkBlock(block);
        switch (what) {
            case 0: return state.nominal[block];
            case 1: return state.errorOf(block) + ERROR_SHIFT;
            case 2: return state.wear[block];
            case 3: return state.warmth[block];
            case 4: return state.gradeOf(block);
            case 5: return state.trueLengthOf(block, 0);
            case 6: return state.stack[block];
            case 7: return state.place[block];
            case 8: return state.timesWrung[block];
            default: throw new IllegalArgumentException("no such number of a block");
        }
    }

    public int stackOf(int stack, int what) throws IndexOutOfBoundsException, IllegalArgumentException {
        checkStack(stack);
        switch (what) {
            case 0: return state.heightOf(stack);
            case 1: return state.nominalOfSet(state.blocksIn(stack));
            case 2: return state.trueLengthOfStack(stack, 0);
            case 3: return state.blocksIn(stack);
            case 4: return state.blockAt(stack, state.heightOf(stack) - 1);
            case 5: return state.greatestGradeIn(stack);
            case 6: return state.sizeOfDifference(stack);
            default: throw new IllegalArgumentException("no such number of a stack");
        }
    }

    public int ranked(int how, int rank) throws IllegalArgumentException {
        checkRange(how, BY_LENGTH, BY_ERROR);
        checkLeast(rank, 0);
        return Finder.blockOfRank(state, how, rank);
    }

    public int lengths(int rank) throws IllegalArgumentException {
        checkLeast(rank, NONE);
        return rank == NONE ? Finder.differentLengths(state) : Finder.lengthOfRank(state, rank);
    }

    public int count(int what) throws IllegalArgumentException {
        switch (what) {
            case 0: return state.blocks;
            case 1: return state.blocksIn(NONE);
            case 2: return state.minutes;
            case 3: return state.wrings;
            case 4: return state.takeOffs;
            case 5: return state.wearOfAll();
            case 6: return state.refusals;
            case 7: return state.blocksOfGrade(WORST_GRADE);
            case 8: return saved.many;
            case 9: return text.length;
            default: throw new IllegalArgumentException("no such number");
        }
    }

    public int setting(int setting) throws IndexOutOfBoundsException {
        checkSetting(setting);
        return state.settings[setting];
    }

    // ---- what would be; nothing changes

    public int refusal(int stack, int block) throws IndexOutOfBoundsException {
        checkStack(stack);
        checkBlock(block);
        return state.reasonToRefuse(stack, block);
    }

    public int fewest(int length, int what) throws IllegalArgumentException {
        checkLength(length);
        checkRange(what, 0, 1);
        int set = Finder.fewestFor(state, length);
        if (set == 0) {
            return NONE;
        }
        return what == 0 ? Integer.bitCount(set) : set;
    }

    public int oldWay(int length, int what) throws IllegalArgumentException {
        checkLength(length);
        checkRange(what, 0, 2);
        int set = Finder.takenByOldWay(state, length);
        int rest = length - state.nominalOfSet(set);
        if (what == 2) {
            return rest;
        }
        if (rest != 0) {
            return NONE;
        }
        return what == 0 ? Integer.bitCount(set) : set;
    }

    public int nearest(int length) throws IllegalArgumentException {
        checkLength(length);
        return Finder.nearestTo(state, length);
    }

    public int coolIn(int block) throws IndexOutOfBoundsException {
        checkBlock(block);
        return state.minutesUntilCool(block);
    }

    public int lengthIn(int stack, int minutes) throws IndexOutOfBoundsException, IllegalArgumentException {
        checkStack(stack);
        checkRange(minutes, 0, MINUTES_AHEAD_MAX);
        return state.trueLengthOfStack(stack, minutes);
    }

    public double meanError() {
        if (state.blocks == 0) {
            return 0.0;
        }
        return (double) state.sizesOfErrors() / (double) state.blocks;
    }

    // ---- checks of arguments

    private static void checkRange(int value, int least, int greatest) {
        if (value < least || value > greatest) {
            throw new IllegalArgumentException("an argument is out of range");
        }
    }

    private static void checkLeast(int value, int least) {
        if (value < least) {
            throw new IllegalArgumentException("an argument is too small");
        }
    }

    private static void checkLength(int length) {
        checkRange(length, NOMINAL_MIN, LENGTH_MAX);
    }

    private static void checkStack(int stack) {
        if (stack < 0 || stack >= STACKS) {
            throw new IndexOutOfBoundsException("there is no such stack");
        }
    }

    private static void checkSetting(int setting) {
        if (setting < 0 || setting >= SETTINGS) {
            throw new IndexOutOfBoundsException("there is no such setting");
        }
    }

    private void checkBlock(int block) {
        if (!state.hasBlock(block)) {
            throw new IndexOutOfBoundsException("there is no such block");
        }
    }

    private void checkFree(int block) {
        if (!state.isFree(block)) {
            throw new IllegalStateException("the block is not free");
        }
    }

    /**
     * Everything that undo and snapshots restore. Each block knows its stack and its place there, so that
     * nothing but the rows has to move when a block goes and the later ones get new numbers.
     */
    private static final class State {
        final int[] nominal = new int[BLOCKS_MAX];
        final int[] deviation = new int[BLOCKS_MAX];
        final int[] wear = new int[BLOCKS_MAX];
        final int[] warmth = new int[BLOCKS_MAX];
        final int[] stack = new int[BLOCKS_MAX];
        final int[] place = new int[BLOCKS_MAX];
        final int[] timesWrung = new int[BLOCKS_MAX];
        final int[] settings = SETTINGS_AT_FIRST.clone();
        int blocks;
        int minutes;
        int wrings;
        int takeOffs;
        int refusals;

        void copyFrom(State other) {
            System.arraycopy(other.nominal, 0, nominal, 0, BLOCKS_MAX);
            System.arraycopy(other.deviation, 0, deviation, 0, BLOCKS_MAX);
            System.arraycopy(other.wear, 0, wear, 0, BLOCKS_MAX);
            System.arraycopy(other.warmth, 0, warmth, 0, BLOCKS_MAX);
            System.arraycopy(other.stack, 0, stack, 0, BLOCKS_MAX);
            System.arraycopy(other.place, 0, place, 0, BLOCKS_MAX);
            System.arraycopy(other.timesWrung, 0, timesWrung, 0, BLOCKS_MAX);
            System.arraycopy(other.settings, 0, settings, 0, SETTINGS);
            blocks = other.blocks;
            minutes = other.minutes;
            wrings = other.wrings;
            takeOffs = other.takeOffs;
            refusals = other.refusals;
        }

        boolean isFull() {
            return blocks >= BLOCKS_MAX;
        }

        boolean hasBlock(int block) {
            return block >= 0 && block < blocks;
        }

        boolean isFree(int block) {
            return stack[block] == NONE;
        }

        int addBlock(int length, int error) {
            if (isFull()) {
                return NONE;
            }
            int block = blocks;
            nominal[block] = length;
            deviation[block] = error;
            wear[block] = 0;
            warmth[block] = 0;
            stack[block] = NONE;
            place[block] = NONE;
            timesWrung[block] = 0;
            blocks++;
            return block;
        }

        void removeBlock(int block) {
            closeGap(nominal, block);
            closeGap(deviation, block);
            closeGap(wear, block);
            closeGap(warmth, block);
            closeGap(stack, block);
            closeGap(place, block);
            closeGap(timesWrung, block);
            blocks--;
        }

        private void closeGap(int[] row, int gap) {
            for (int block = gap + 1; block < blocks; block++) {
                row[block - 1] = row[block];
            }
        }

        int errorOf(int block) {
            return deviation[block] - wear[block];
        }

        int sizeOfError(int block) {
            return Math.abs(errorOf(block));
        }

        int sizesOfErrors() {
            int sum = 0;
            for (int block = 0; block < blocks; block++) {
                sum += sizeOfError(block);
            }
            return sum;
        }

        int gradeOf(int block) {
            int size = sizeOfError(block);
            if (size <= 100) {
                return 0;
            }
            if (size <= 250) {
                return 1;
            }
            return size <= 500 ? 2 : WORST_GRADE;
        }

        void turnWearIntoDeviation(int block) {
            deviation[block] = Math.max(errorOf(block), -DEVIATION_MAX);
            wear[block] = 0;
        }

        int wearOfAll() {
            int sum = 0;
            for (int block = 0; block < blocks; block++) {
                sum += wear[block];
            }
            return sum;
        }

        void warm(int block, int increase) {
            warmth[block] = Math.min(warmth[block] + increase, WARMTH_MAX);
        }

        void letPass(int passing) {
            for (int block = 0; block < blocks; block++) {
                warmth[block] = cooled(warmth[block], passing);
            }
            minutes += passing;
        }

        private static int cooled(int warmth, int passing) {
            int left = warmth;
            for (int minute = 0; minute < passing && left > 0; minute++) {
                left -= (left + 9) / 10;
            }
            return left;
        }

        int minutesUntilCool(int block) {
            int left = warmth[block];
            int passed = 0;
            while (left > settings[WARMEST_TO_WRING] && passed < WARMTH_MAX) {
                left = cooled(left, 1);
                passed++;
            }
            return passed;
        }

        int greatestWarmth() {
            int greatest = 0;
            for (int block = 0; block < blocks; block++) {
                greatest = Math.max(greatest, warmth[block]);
            }
            return greatest;
        }

        int reasonToRefuse(int onStack, int block) {
            if (!isFree(block)) {
                return NOT_FREE;
            }
            if (heightOf(onStack) >= STACK_MAX) {
                return STACK_FULL;
            }
            if (warmth[block] > settings[WARMEST_TO_WRING]) {
                return TOO_WARM;
            }
            return gradeOf(block) == WORST_GRADE ? TOO_BAD : ACCEPTED;
        }

        int tryToWring(int onStack, int block) {
            int reason = reasonToRefuse(onStack, block);
            if (reason == ACCEPTED) {
                putOnTop(onStack, block);
            } else {
                refusals++;
            }
            return reason;
        }

        int wringSet(int onStack, int set) {
            int wrung = 0;
            for (int block = 0; block < blocks; block++) {
                if ((set >> block & 1) != 0) {
                    if (tryToWring(onStack, block) != ACCEPTED) {
                        return wrung;
                    }
                    wrung++;
                }
            }
            return wrung;
        }

        private void putOnTop(int onStack, int block) {
            int height = heightOf(onStack);
            slide(block, blockAt(onStack, height - 1));
            stack[block] = onStack;
            place[block] = height;
            timesWrung[block]++;
            wrings++;
        }

        int takeTopOff(int ofStack) {
            int height = heightOf(ofStack);
            int top = blockAt(ofStack, height - 1);
            if (top == NONE) {
                return NONE;
            }
            slide(top, blockAt(ofStack, height - 2));
            stack[top] = NONE;
            place[top] = NONE;
            takeOffs++;
            return top;
        }

        private void slide(int block, int below) {
            warm(block, settings[WARMTH_OF_A_HAND]);
            if (below != NONE) {
                wear[block] += settings[WEAR_OF_WRINGING];
                wear[below] += settings[WEAR_OF_WRINGING];
            }
        }

        int blockAt(int inStack, int inPlace) {
            for (int block = 0; block < blocks; block++) {
                if (stack[block] == inStack && place[block] == inPlace) {
                    return block;
                }
            }
            return NONE;
        }

        /** With NONE as the stack these are the free blocks. */
        int blocksIn(int inStack) {
            int set = 0;
            for (int block = 0; block < blocks; block++) {
                if (stack[block] == inStack) {
                    set |= 1 << block;
                }
            }
            return set;
        }

        int blocksOfGrade(int grade) {
            int set = 0;
            for (int block = 0; block < blocks; block++) {
                if (gradeOf(block) == grade) {
                    set |= 1 << block;
                }
            }
            return set;
        }

        int heightOf(int ofStack) {
            return Integer.bitCount(blocksIn(ofStack));
        }

        int nominalOfSet(int set) {
            int sum = 0;
            for (int block = 0; block < blocks; block++) {
                if ((set >> block & 1) != 0) {
                    sum += nominal[block];
                }
            }
            return sum;
        }

        int trueLengthOf(int block, int inMinutes) {
            int heat = cooled(warmth[block], inMinutes);
            return 1000 * nominal[block] + deviation[block] - wear[block] + nominal[block] * heat / 1000 * 115 / 1000;
        }

        int trueLengthOfStack(int ofStack, int inMinutes) {
            int sum = 0;
            int height = 0;
            for (int block = 0; block < blocks; block++) {
                if (stack[block] == ofStack) {
                    sum += trueLengthOf(block, inMinutes);
                    height++;
                }
            }
            return height == 0 ? 0 : sum + (height - 1) * settings[FILM];
        }

        int sizeOfDifference(int ofStack) {
            return Math.abs(trueLengthOfStack(ofStack, 0) - 1000 * nominalOfSet(blocksIn(ofStack)));
        }

        int greatestGradeIn(int inStack) {
            int greatest = NONE;
            for (int block = 0; block < blocks; block++) {
                if (stack[block] == inStack) {
                    greatest = Math.max(greatest, gradeOf(block));
                }
            }
            return greatest;
        }
    }

    /** The states before the last calls, the oldest first; their rows are used again and again. */
    private static final class SavedStates {
        private final State[] states = new State[SAVED_MAX];
        int many;

        SavedStates() {
            for (int i = 0; i < SAVED_MAX; i++) {
                states[i] = new State();
            }
        }

        void push(State now) {
            if (many >= SAVED_MAX) {
                dropOldest();
            }
            states[many].copyFrom(now);
            many++;
        }

        private void dropOldest() {
            State oldest = states[0];
            for (int i = 1; i < SAVED_MAX; i++) {
                states[i - 1] = states[i];
            }
            states[SAVED_MAX - 1] = oldest;
            many = SAVED_MAX - 1;
        }

        void popInto(State now) {
            if (many > 0) {
                many--;
                now.copyFrom(states[many]);
            }
        }
    }

    /** The searches among the blocks of a state; they change nothing. */
    private static final class Finder {
        static int fewestFor(State state, int length) {
            int free = state.blocksIn(NONE);
            for (int many = 1; many <= STACK_MAX; many++) {
                int set = leastSet(state.nominal, free, BLOCKS_MAX, many, length);
                if (set != 0) {
                    return set;
                }
            }
            return 0;
        }

        /**
         * The least set of so many free blocks with numbers less than below that make the length, 0 if there
         * is none. The highest number of a set weighs more than all the others, so the first one found is the least.
         */
        private static int leastSet(int[] nominal, int free, int below, int many, int length) {
            if (many < 1 || many > STACK_MAX || length < many * NOMINAL_MIN || length > many * NOMINAL_MAX) {
                return 0;
            }
            for (int block = many - 1; block < below && block < BLOCKS_MAX; block++) {
                if ((free >> block & 1) != 0) {
                    int rest = length - nominal[block];
                    if (many == 1 && rest == 0) {
                        return 1 << block;
                    }
                    int others = many == 1 ? 0 : leastSet(nominal, free, block, many - 1, rest);
                    if (others != 0) {
                        return others | 1 << block;
                    }
                }
            }
            return 0;
        }

        /** If the old way fails, these blocks are shorter than the length together. */
        static int takenByOldWay(State state, int length) {
            int rest = length;
            int taken = 0;
            for (int many = 0; many < STACK_MAX && rest > 0; many++) {
                int block = nextOfOldWay(state, taken, rest);
                if (block == NONE) {
                    return taken;
                }
                taken |= 1 << block;
                rest -= state.nominal[block];
            }
            return taken;
        }

        private static int nextOfOldWay(State state, int taken, int rest) {
            int zeros = zerosAtEnd(rest);
            int best = NONE;
            for (int block = 0; block < state.blocks; block++) {
                int left = rest - state.nominal[block];
                boolean isThere = state.isFree(block) && (taken >> block & 1) == 0;
                boolean fits = isThere && left >= 0 && zerosAtEnd(left) > zeros;
                if (fits && (best == NONE || state.nominal[block] > state.nominal[best])) {
                    best = block;
                }
            }
            return best;
        }

        /** 0 has more zeros than each other length. */
        private static int zerosAtEnd(int length) {
            int left = length;
            int zeros = 0;
            while (zeros < DIGITS_MAX && left % 10 == 0) {
                left /= 10;
                zeros++;
            }
            return zeros;
        }

        static int nearestTo(State state, int length) {
            int best = NONE;
            for (int one = 0; one < state.blocks; one++) {
                if (state.isFree(one)) {
                    best = nearer(best, state.nominal[one], length);
                    for (int other = 0; other < one; other++) {
                        if (state.isFree(other)) {
                            best = nearer(best, state.nominal[one] + state.nominal[other], length);
                        }
                    }
                }
            }
            return best;
        }

        private static int nearer(int best, int other, int length) {
            if (best == NONE) {
                return other;
            }
            int nearness = Math.abs(best - length) - Math.abs(other - length);
            if (nearness == 0) {
                return Math.min(best, other);
            }
            return nearness > 0 ? other : best;
        }

        static int blockOfRank(State state, int how, int rank) {
            for (int block = 0; block < state.blocks; block++) {
                if (manyBefore(state, how, block) == rank) {
                    return block;
                }
            }
            return NONE;
        }

        private static int manyBefore(State state, int how, int block) {
            int many = 0;
            for (int other = 0; other < state.blocks; other++) {
                int difference = sortKey(state, how, other) - sortKey(state, how, block);
                if (difference < 0 || difference == 0 && other < block) {
                    many++;
                }
            }
            return many;
        }

        /** The block with the least key comes first. */
        private static int sortKey(State state, int how, int block) {
            switch (how) {
                case BY_WARMTH: return -state.warmth[block];
                case BY_ERROR: return -state.sizeOfError(block);
                default: return state.nominal[block];
            }
        }

        static int differentLengths(State state) {
            int many = 0;
            while (many < BLOCKS_MAX && lengthOfRank(state, many) != NONE) {
                many++;
            }
            return many;
        }

        static int lengthOfRank(State state, int rank) {
            if (rank >= BLOCKS_MAX) {
                return NONE;
            }
            int length = 0;
            for (int passed = 0; passed <= rank && length != NONE; passed++) {
                length = shortestAbove(state, length);
            }
            return length;
        }

        private static int shortestAbove(State state, int length) {
            int shortest = NONE;
            for (int block = 0; block < state.blocks; block++) {
                int nominal = state.nominal[block];
                if (state.isFree(block) && nominal > length && (shortest == NONE || nominal < shortest)) {
                    shortest = nominal;
                }
            }
            return shortest;
        }
    }

    /** The buffer and a reader that goes through it; where the reader stops is the first error, or the end. */
    private static final class OrderText {
        static final int SEPARATOR = ';';

        private final int[] signs = new int[BUFFER_MAX];
        int length;
        int at;
        int letter;
        int first;
        int second;

        void addSign(int sign) {
            if (length < BUFFER_MAX) {
                signs[length] = sign;
                length++;
            }
        }

        /** Tells whether the buffer is a complete order text. */
        boolean readAll() {
            at = 0;
            for (int orders = 0; orders < BUFFER_MAX; orders++) {
                if (!readOrder()) {
                    return false;
                }
                if (isAtEnd()) {
                    return true;
                }
                if (!readSign(SEPARATOR)) {
                    return false;
                }
            }
            return false;
        }

        boolean readOrder() {
            if (isAtEnd()) {
                return false;
            }
            letter = signs[at];
            switch (letter) {
                case 'b':
                    return readSign('b') && readFirst(NOMINAL_MIN, NOMINAL_MAX);
                case 'w':
                    return readSign('w') && readFirst(0, STACKS - 1) && readSign('+') && readSecond(0, BLOCKS_MAX - 1);
                case 'u':
                    return readSign('u') && readFirst(0, STACKS - 1);
                case 'h':
                    return readSign('h') && readFirst(0, BLOCKS_MAX - 1) && readSign(',') && readSecond(1, SECONDS_MAX);
                case 'r':
                    return readSign('r') && readFirst(1, MINUTES_MAX);
                default:
                    return false;
            }
        }

        boolean readSign(int sign) {
            if (isAtEnd() || signs[at] != sign) {
                return false;
            }
            at++;
            return true;
        }

        private boolean isAtEnd() {
            return at >= length;
        }

        private boolean readFirst(int least, int greatest) {
            first = readNumber(least, greatest);
            return first != NONE;
        }

        private boolean readSecond(int least, int greatest) {
            second = readNumber(least, greatest);
            return second != NONE;
        }

        /** Reads as many digits as such a number can begin with; NONE if they are not yet such a number. */
        private int readNumber(int least, int greatest) {
            int number = NONE;
            while (at < length) {
                int longer = withDigit(number, signs[at]);
                if (!canBegin(longer, least, greatest)) {
                    break;
                }
                number = longer;
                at++;
            }
            return number >= least ? number : NONE;
        }

        /** NONE as the number stands for no digits yet, and as the answer for digits that are no number. */
        private static int withDigit(int number, int sign) {
            if (sign < '0' || sign > '9' || number == 0) {
                return NONE;
            }
            return number == NONE ? sign - '0' : number * 10 + sign - '0';
        }

        /** A number that is too small still grows into the range: the greatest is at least ten times the least. */
        private static boolean canBegin(int number, int least, int greatest) {
            return number >= Math.min(least, 1) && number <= greatest;
        }
    }
}
