/** The sentences of promises 8 to 10, 19 and 24: wringing, taking off, making lengths, and what is refused. */
final class StacksSentences {
    private static final int LOW = Integer.MIN_VALUE;
    private static final int HIGH = Integer.MAX_VALUE;

    private StacksSentences() {
    }

    // ---- promise 8: wring

    @Sentence(of = "8", says = "Wrings a block to a stack, unless it is refused")
    static void wringWrings() {
        GaugeBlocks g = new GaugeBlocks();
        g.block(1000, 0);
        g.block(2000, 600);
        g.wring(1, 0);
        Checks.due("it is in the stack", g.stackOf(1, 3), 1);
        Checks.due("a wringing", g.count(3), 1);
        String before = Checks.stateOf(g);
        g.wring(1, 1);
        Checks.due("a refusal", g.count(6), 1);
        g.undo();
        Checks.dueTrue("as before", Checks.stateOf(g).equals(before));
        g.wring(1, 1);
        Checks.due("the refused one is not in the stack", g.stackOf(1, 3), 1);
        Checks.due("no more wringings", g.count(3), 1);
        Checks.due("no warmth", g.blockOf(1, 3), 0);
        Checks.due("no wear", g.count(5), 0);
    }

    @Sentence(of = "8", says = "Undoable, also if it is refused")
    static void wringIsUndoable() {
        GaugeBlocks g = Checks.withSixIn(0);
        Checks.dueUndo("wrung to an empty stack", g, () -> g.wring(1, 6));
        Checks.dueUndo("refused: not free", g, () -> g.wring(1, 5));
        Checks.dueUndo("refused: full", g, () -> g.wring(0, 6));
        g.takeOff(0);
        Checks.dueUndo("wrung to five", g, () -> g.wring(0, 6));
        g.hold(6, 60);
        g.hold(6, 1);
        Checks.dueUndo("refused: warm", g, () -> g.wring(0, 6));
        GaugeBlocks bad = Checks.worn(-500, 1);
        Checks.dueUndo("refused: bad", bad, () -> bad.wring(0, 0));
    }

    @Sentence(of = "8", says = "`stack`: 0 to 2")
    static void wringEachStack() {
        for (int stack = 0; stack <= 2; stack++) {
            GaugeBlocks g = Checks.with(1000);
            Checks.due("wring", g.wring(stack, 0), 0);
            Checks.due("it is there", g.blockOf(0, 6), stack);
        }
    }

    @Sentence(of = "8", says = "`block`: the number of the block")
    static void wringEachNumber() {
        GaugeBlocks g = Checks.full();
        for (int block : new int[] {19, 0, 18, 1}) {
            Checks.due("wring", g.wring(2, block), 0);
            Checks.due("the uppermost", g.stackOf(2, 4), block);
        }
    }

    @Sentence(of = "8", says = "Returns 0 if it is wrung; otherwise the reason, 1 to 4")
    static void wringReturns() {
        GaugeBlocks g = Checks.withSixIn(1);
        Checks.due("wrung already", g.wring(0, 5), 1);
        Checks.due("the stack is full", g.wring(1, 6), 2);
        Checks.warmTo(g, 6, 305);
        Checks.due("too warm", g.wring(0, 6), 3);
        g.rest(1);
        Checks.due("cool enough", g.wring(0, 6), 0);
        g.block(500, 501);
        Checks.due("bad", g.wring(2, 7), 4);
        Checks.due("refusals", g.count(6), 4);
    }

    @Sentence(of = "8", says = "Throws `IndexOutOfBoundsException` if there is no such stack or block")
    static void wringNoSuchNumbers() {
        GaugeBlocks g = Checks.full();
        for (int stack : new int[] {-1, 3, LOW, HIGH}) {
            Checks.dueIndex("wring(" + stack + ", 0)", g, () -> g.wring(stack, 0));
            Checks.dueIndex("wring(" + stack + ", 20)", g, () -> g.wring(stack, 20));
        }
        for (int stack : new int[] {0, 2}) {
            Checks.dueNoSuchBlock("wring", (some, block) -> some.wring(stack, block));
        }
    }

    // ---- promise 9: takeOff

    @Sentence(of = "9", says = "Takes the uppermost block off a stack")
    static void takeOffTakesTheUppermost() {
        GaugeBlocks g = Checks.withSixIn(2);
        for (int height = 6; height > 0; height--) {
            Checks.due("height", g.stackOf(2, 0), height);
            g.takeOff(2);
            Checks.due("the ones below stay", g.stackOf(2, 3), (1 << height - 1) - 1);
            Checks.due("it is free", g.blockOf(height - 1, 6), -1);
            Checks.due("taken off", g.count(4), 7 - height);
        }
        Checks.due("none is left", g.stackOf(2, 0), 0);
        Checks.due("wringings stay", g.count(3), 6);
    }

    @Sentence(of = "9", says = "Undoable")
    static void takeOffIsUndoable() {
        GaugeBlocks g = Checks.withSixIn(0);
        Checks.dueUndo("the sixth", g, () -> g.takeOff(0));
        GaugeBlocks one = Checks.with(1000);
        one.wring(0, 0);
        Checks.dueUndo("the only one", one, () -> one.takeOff(0));
    }

    @Sentence(of = "9", says = "`stack`: 0 to 2")
    static void takeOffEachStack() {
        GaugeBlocks g = Checks.with(1000, 2000, 3000);
        g.wring(0, 2);
        g.wring(1, 1);
        g.wring(2, 0);
        Checks.due("stack 2", g.takeOff(2), 0);
        Checks.due("stack 0", g.takeOff(0), 2);
        Checks.due("stack 1", g.takeOff(1), 1);
    }

    @Sentence(of = "9", says = "Returns the number of the block")
    static void takeOffReturns() {
        GaugeBlocks g = Checks.full();
        for (int block : new int[] {19, 0, 7}) {
            g.wring(1, block);
        }
        Checks.due("the third", g.takeOff(1), 7);
        g.discard(7);
        Checks.due("the second", g.takeOff(1), 0);
        g.discard(0);
        Checks.due("the first, with its number then", g.takeOff(1), 17);
    }

    @Sentence(of = "9", says = "Throws `IndexOutOfBoundsException` if there is no such stack")
    static void takeOffNoSuchStack() {
        GaugeBlocks g = Checks.with(1000, 2000, 3000);
        for (int stack = 0; stack <= 2; stack++) {
            g.wring(stack, stack);
        }
        GaugeBlocks none = new GaugeBlocks();
        for (int stack : new int[] {-1, 3, LOW, HIGH}) {
            Checks.dueIndex("takeOff(" + stack + ")", g, () -> g.takeOff(stack));
            Checks.dueIndex("takeOff(" + stack + ") of none", none, () -> none.takeOff(stack));
        }
    }

    @Sentence(of = "9", says = "Throws `IllegalStateException` if it is empty")
    static void takeOffEmptyStack() {
        for (int stack = 0; stack <= 2; stack++) {
            int one = stack;
            GaugeBlocks g = Checks.with(1000, 2000);
            Checks.dueState("empty at first", g, () -> g.takeOff(one));
            g.wring((stack + 1) % 3, 0);
            Checks.dueState("another one is not empty", g, () -> g.takeOff(one));
            g.wring(stack, 1);
            g.takeOff(stack);
            Checks.dueState("empty again", g, () -> g.takeOff(one));
        }
    }

    // ---- promise 10: make

    @Sentence(of = "10", says = "Wrings the fewest blocks for a length to an empty stack, in ascending order of "
        + "their numbers, up to the first one that is refused")
    static void makeWrings() {
        GaugeBlocks g = Checks.with(4000, 3000, 2000, 1000, 500, 10000);
        g.make(0, 14500);
        Checks.due("the fewest", g.stackOf(0, 3), 1 + 16 + 32);
        Checks.due("the lowest number below", g.blockOf(0, 7), 0);
        Checks.due("the next one", g.blockOf(4, 7), 1);
        Checks.due("the highest number above", g.blockOf(5, 7), 2);
        Checks.due("wear", g.count(5), 12);
        Checks.due("warmth", g.blockOf(4, 3), 40);
        g.make(1, 5000);
        Checks.due("only free ones, the least mask", g.stackOf(1, 3), 2 + 4);
        for (int refused = 0; refused < 4; refused++) {
            GaugeBlocks other = Checks.with(1000, 2000, 4000, 8000);
            Checks.warmTo(other, refused, 305);
            other.make(2, 15000);
            Checks.due("up to the refused one", other.stackOf(2, 3), (1 << refused) - 1);
            Checks.due("one refusal", other.count(6), 1);
            Checks.due("wringings", other.count(3), refused);
        }
        GaugeBlocks bad = new GaugeBlocks();
        bad.block(1000, 0);
        bad.block(2000, 501);
        bad.block(4000, -501);
        bad.make(0, 7000);
        Checks.due("up to the first bad one", bad.stackOf(0, 3), 1);
        Checks.due("only the first one is refused", bad.count(6), 1);
    }

    @Sentence(of = "10", says = "Undoable, also if one is refused")
    static void makeIsUndoable() {
        GaugeBlocks g = Checks.with(1000, 2000, 4000);
        Checks.dueUndo("all are wrung", g, () -> g.make(0, 7000));
        Checks.dueUndo("there are no such blocks", g, () -> g.make(0, 8000));
        Checks.warmTo(g, 1, 305);
        Checks.dueUndo("the second is refused", g, () -> g.make(0, 7000));
        Checks.dueUndo("the first is refused", g, () -> g.make(0, 2000));
    }

    @Sentence(of = "10", says = "`stack`: 0 to 2")
    static void makeEachStack() {
        for (int stack = 0; stack <= 2; stack++) {
            GaugeBlocks g = Checks.with(1000, 2000);
            Checks.due("make", g.make(stack, 3000), 2);
            Checks.due("they are there", g.stackOf(stack, 3), 3);
        }
    }

    @Sentence(of = "10", says = "`length`: 500 to 600000")
    static void makeEachLength() {
        Checks.due("the least length", Checks.with(500).make(0, 500), 1);
        GaugeBlocks g = Checks.with(100000, 100000, 100000, 100000, 100000, 100000);
        Checks.due("the greatest length", g.make(0, 600000), 6);
        Checks.due("it is 600000", g.stackOf(0, 1), 600000);
        Checks.due("a length that none makes", g.make(1, 501), -1);
        Checks.due("a length that none makes", g.make(1, 599999), -1);
    }

    @Sentence(of = "10",
        says = "Returns how many blocks are wrung; NONE if there are no such blocks (then no block is wrung)")
    static void makeReturns() {
        for (int many = 1; many <= 6; many++) {
            GaugeBlocks g = Checks.with(1000, 1000, 1000, 1000, 1000, 1000, 1000);
            Checks.due("wrung", g.make(0, 1000 * many), many);
            Checks.due("the height", g.stackOf(0, 0), many);
        }
        GaugeBlocks g = Checks.with(1000, 1000, 1000, 1000, 1000, 1000, 1000);
        Checks.due("seven", g.make(0, 7000), -1);
        Checks.due("none is wrung", g.stackOf(0, 0), 0);
        Checks.due("no wringing", g.count(3), 0);
        Checks.due("no refusal", g.count(6), 0);
        for (int refused = 0; refused < 3; refused++) {
            GaugeBlocks other = Checks.with(1000, 2000, 4000);
            Checks.warmTo(other, refused, 305);
            Checks.due("up to the refused one", other.make(0, 7000), refused);
        }
        Checks.due("without blocks", new GaugeBlocks().make(0, 500), -1);
    }

    @Sentence(of = "10", says = "Throws `IndexOutOfBoundsException` if there is no such stack")
    static void makeNoSuchStack() {
        GaugeBlocks g = Checks.with(1000);
        for (int stack : new int[] {-1, 3, LOW, HIGH}) {
            Checks.dueIndex("make(" + stack + ", 1000)", g, () -> g.make(stack, 1000));
            Checks.dueIndex("make(" + stack + ", 499)", g, () -> g.make(stack, 499));
        }
    }

    @Sentence(of = "10", says = "Throws `IllegalArgumentException` if length is out of range")
    static void makeOutOfRange() {
        GaugeBlocks g = Checks.with(1000);
        g.wring(1, 0);
        for (int length : new int[] {499, 600001, 0, -1000, LOW, HIGH}) {
            Checks.dueIllegal("make(0, " + length + ")", g, () -> g.make(0, length));
            Checks.dueIllegal("make(1, " + length + ")", g, () -> g.make(1, length));
        }
    }

    @Sentence(of = "10", says = "Throws `IllegalStateException` if the stack is not empty")
    static void makeStackNotEmpty() {
        for (int stack = 0; stack <= 2; stack++) {
            int one = stack;
            GaugeBlocks g = Checks.with(1000, 2000, 500);
            g.wring(stack, 0);
            Checks.dueState("blocks make it", g, () -> g.make(one, 2000));
            Checks.dueState("no blocks make it", g, () -> g.make(one, 501));
            g.takeOff(stack);
            Checks.due("empty again", g.make(stack, 3000), 2);
            GaugeBlocks six = Checks.withSixIn(stack);
            Checks.dueState("full", six, () -> six.make(one, 7000));
        }
    }

    // ---- promise 19: stackOf

    @Sentence(of = "19", says = "Returns a number of a stack")
    static void stackOfAnswersForThisStack() {
        GaugeBlocks g = Checks.with(1000, 2000, 3000);
        g.wring(0, 2);
        g.wring(2, 1);
        g.wring(2, 0);
        int[][] due = {
            {1, 3000, 3000013, 4, 2, 0, 13}, {0, 0, 0, 0, -1, -1, 0}, {2, 3000, 3000017, 3, 0, 0, 17},
        };
        for (int stack = 0; stack <= 2; stack++) {
            for (int what = 0; what <= 6; what++) {
                Checks.due("stackOf(" + stack + ", " + what + ")", g.stackOf(stack, what), due[stack][what]);
            }
        }
    }

    @Sentence(of = "19", says = "`stack`: 0 to 2")
    static void stackOfEachStack() {
        GaugeBlocks g = Checks.with(1000, 2000, 3000);
        for (int stack = 0; stack <= 2; stack++) {
            g.wring(stack, 2 - stack);
        }
        for (int stack = 0; stack <= 2; stack++) {
            Checks.due("the uppermost", g.stackOf(stack, 4), 2 - stack);
        }
    }

    @Sentence(of = "19", says = "`what`: 0 the number of its blocks, 1 the sum of their nominal lengths, 2 its true "
        + "length, 3 its blocks as a set, 4 its uppermost block (NONE if it is empty), 5 the greatest grade of its "
        + "blocks (NONE if it is empty), 6 the size of the difference of its true length and 1000 times the sum of "
        + "the nominal lengths")
    static void stackOfEachWhat() {
        GaugeBlocks g = new GaugeBlocks();
        g.set(3, 0);
        g.block(1000, -250);
        g.block(2000, -100);
        dueStack(g, 0, 0, 0, 0, -1, -1, 0);
        g.wring(0, 1);
        dueStack(g, 1, 2000, 1999900, 2, 1, 0, 100);
        g.wring(0, 0);
        dueStack(g, 2, 3000, 2999654, 3, 0, 2, 346);
        g.block(3000, 480);
        g.wring(0, 2);
        g.set(0, 0);
        dueStack(g, 3, 6000, 6000118, 7, 2, 2, 118);
        g.set(2, 20);
        for (int times = 0; times < 7; times++) {
            g.takeOff(0);
            g.wring(0, 2);
        }
        g.set(0, 60);
        dueStack(g, 3, 6000, 6000000 + 118 - 560 + 120, 7, 2, 3, 322);
        g.takeOff(0);
        g.takeOff(0);
        g.takeOff(0);
        dueStack(g, 0, 0, 0, 0, -1, -1, 0);
        GaugeBlocks exact = Checks.with(1000);
        exact.set(3, 0);
        exact.wring(0, 0);
        dueStack(exact, 1, 1000, 1000000, 1, 0, 0, 0);
    }

    private static void dueStack(GaugeBlocks g, int... due) {
        for (int what = 0; what <= 6; what++) {
            Checks.due("stackOf(0, " + what + ")", g.stackOf(0, what), due[what]);
        }
    }

    @Sentence(of = "19", says = "Returns the number")
    static void stackOfReturns() {
        GaugeBlocks g = new GaugeBlocks();
        g.set(1, 1000);
        g.set(2, 0);
        for (int block = 0; block < 6; block++) {
            g.block(100000, 500);
            Checks.warmTo(g, block, 1000);
            g.wring(0, block);
        }
        g.set(0, 60);
        Checks.due("the greatest sum", g.stackOf(0, 1), 600000);
        Checks.due("the greatest true length", g.stackOf(0, 2), 600000000 + 6 * 12000 + 300);
        Checks.due("its difference", g.stackOf(0, 6), 72300);
        Checks.due("its set", g.stackOf(0, 3), 63);
    }

    @Sentence(of = "19", says = "Throws `IndexOutOfBoundsException` if there is no such stack")
    static void stackOfNoSuchStack() {
        GaugeBlocks g = Checks.with(1000);
        for (int what = -1; what <= 7; what++) {
            int number = what;
            for (int stack : new int[] {-1, 3, LOW, HIGH}) {
                Checks.dueIndex("stackOf(" + stack + ", " + what + ")", g, () -> g.stackOf(stack, number));
            }
        }
    }

    @Sentence(of = "19", says = "Throws `IllegalArgumentException` if what is not 0 to 6")
    static void stackOfOutOfRange() {
        GaugeBlocks g = Checks.withSixIn(0);
        for (int what : new int[] {-1, 7, LOW, HIGH}) {
            Checks.dueIllegal("a full one", g, () -> g.stackOf(0, what));
            Checks.dueIllegal("an empty one", g, () -> g.stackOf(2, what));
        }
    }

    // ---- promise 24: refusal

    @Sentence(of = "24", says = "Tells why a block would be refused by a stack")
    static void refusalTells() {
        GaugeBlocks g = Checks.withSixIn(0);
        g.block(2000, -501);
        Checks.warmTo(g, 7, 305);
        for (int stack = 0; stack <= 2; stack++) {
            for (int block = 0; block < 8; block++) {
                int told = g.refusal(stack, block);
                Checks.due("wring(" + stack + ", " + block + ")", g.wring(stack, block), told);
                g.undo();
            }
        }
        int refusals = g.count(6);
        int saved = g.count(8);
        g.refusal(0, 0);
        Checks.due("asking is no refusal", g.count(6), refusals);
        Checks.due("asking saves nothing", g.count(8), saved);
    }

    @Sentence(of = "24", says = "`stack`: 0 to 2")
    static void refusalEachStack() {
        for (int full = 0; full <= 2; full++) {
            GaugeBlocks g = Checks.withSixIn(full);
            for (int stack = 0; stack <= 2; stack++) {
                Checks.due("refusal(" + stack + ", 6)", g.refusal(stack, 6), stack == full ? 2 : 0);
            }
        }
    }

    @Sentence(of = "24", says = "`block`: the number of the block")
    static void refusalEachNumber() {
        GaugeBlocks g = Checks.full();
        g.wring(0, 19);
        g.wring(1, 0);
        Checks.due("the last one", g.refusal(2, 19), 1);
        Checks.due("the first one", g.refusal(2, 0), 1);
        Checks.due("the one before the last", g.refusal(2, 18), 0);
        Checks.due("the second", g.refusal(2, 1), 0);
    }

    @Sentence(of = "24", says = "Returns the reason, 1 to 4; 0 if it would not be refused")
    static void refusalReturns() {
        GaugeBlocks g = Checks.withSixIn(1);
        g.block(2000, 501);
        Checks.due("not free, to its own full stack", g.refusal(1, 0), 1);
        Checks.due("not free, to an empty stack", g.refusal(0, 0), 1);
        Checks.due("six blocks", g.refusal(1, 6), 2);
        Checks.due("six blocks, and bad", g.refusal(1, 7), 2);
        Checks.due("none", g.refusal(0, 6), 0);
        Checks.due("bad", g.refusal(0, 7), 4);
        Checks.warmTo(g, 6, 300);
        Checks.due("300 is not greater than 300", g.refusal(0, 6), 0);
        g.hold(6, 1);
        Checks.due("305 is greater than 300", g.refusal(0, 6), 3);
        Checks.warmTo(g, 7, 305);
        Checks.due("warm and bad", g.refusal(0, 7), 3);
        g.takeOff(1);
        g.rest(60);
        Checks.due("five blocks", g.refusal(1, 6), 0);
        Checks.due("five blocks, and bad", g.refusal(1, 7), 4);
    }

    @Sentence(of = "24", says = "Throws `IndexOutOfBoundsException` if there is no such stack or block")
    static void refusalNoSuchNumbers() {
        GaugeBlocks g = Checks.full();
        for (int stack : new int[] {-1, 3, LOW, HIGH}) {
            Checks.dueIndex("refusal(" + stack + ", 0)", g, () -> g.refusal(stack, 0));
            Checks.dueIndex("refusal(" + stack + ", 20)", g, () -> g.refusal(stack, 20));
        }
        for (int stack : new int[] {0, 2}) {
            Checks.dueNoSuchBlock("refusal", (some, block) -> some.refusal(stack, block));
        }
    }
}
