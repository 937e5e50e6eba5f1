/** Promises 8 to 10, 19 and 24: wringing, taking off, making lengths, and what is refused. */
final class StacksTest {
    private static final int LOW = Integer.MIN_VALUE;
    private static final int HIGH = Integer.MAX_VALUE;

    private StacksTest() {
    }

    public static void main(String[] args) {
        wringing();
        wringingWarmsUpTo1000();
        reasonsInTheirOrder();
        edgesOfTheReasons();
        wringingWithoutSuchNumbers();
        takingOff();
        takingOffWithoutSuchNumbers();
        making();
        makingUpToARefusal();
        makingWithoutBlocks();
        makingWithWrongArguments();
        numbersOfAStack();
        numbersOfOtherStacks();
        Checks.end("StacksTest");
    }

    private static void wringing() {
        GaugeBlocks g = Checks.with(1000, 2000, 3000);
        Checks.due("the first", g.wring(1, 2), 0);
        Checks.due("warmth", g.blockOf(2, 3), 40);
        Checks.due("no wear", g.count(5), 0);
        Checks.due("the second", g.wring(1, 0), 0);
        Checks.due("its wear", g.blockOf(0, 2), 3);
        Checks.due("the lower one's wear", g.blockOf(2, 2), 3);
        Checks.due("its warmth", g.blockOf(0, 3), 40);
        Checks.due("the lower one's warmth", g.blockOf(2, 3), 40);
        g.set(2, 20);
        g.set(3, 200);
        Checks.due("the third", g.wring(1, 1), 0);
        Checks.due("its wear", g.blockOf(1, 2), 20);
        Checks.due("the wear of the one below", g.blockOf(0, 2), 23);
        Checks.due("the wear of the lowest", g.blockOf(2, 2), 3);
        Checks.due("its warmth", g.blockOf(1, 3), 200);
        Checks.due("its place", g.blockOf(1, 7), 2);
        Checks.due("its stack", g.blockOf(1, 6), 1);
        Checks.due("wrung so far", g.count(3), 3);
        Checks.due("undo", g.undo(), 5);
        Checks.due("free again", g.blockOf(1, 6), -1);
        Checks.due("wrung so far", g.count(3), 2);
        Checks.due("wear again", g.blockOf(0, 2), 3);
    }

    private static void wringingWarmsUpTo1000() {
        GaugeBlocks g = Checks.with(1000);
        g.set(1, 1000);
        g.set(3, 200);
        g.hold(0, 60);
        g.hold(0, 60);
        g.hold(0, 41);
        Checks.due("805 and 200", g.wring(0, 0), 0);
        Checks.due("are 1000", g.blockOf(0, 3), 1000);
        g.takeOff(0);
        Checks.due("not more", g.blockOf(0, 3), 1000);
        Checks.due("1000 is not greater than 1000", g.wring(0, 0), 0);
    }

    private static void reasonsInTheirOrder() {
        GaugeBlocks g = new GaugeBlocks();
        for (int i = 0; i < 6; i++) {
            g.block(1000 + i, 0);
            g.wring(0, i);
        }
        g.block(2000, 600);
        g.hold(6, 60);
        g.hold(6, 1);
        g.block(2000, 0);
        Checks.due("the seventh, warm and bad: full", g.refusal(0, 6), 2);
        Checks.due("full for a good one too", g.refusal(0, 7), 2);
        Checks.due("warm and bad: warm", g.refusal(1, 6), 3);
        Checks.due("a good one", g.refusal(1, 7), 0);
        Checks.due("not free comes first", g.refusal(0, 5), 1);
        Checks.due("not free in another stack", g.refusal(2, 5), 1);
        Checks.due("nothing changed", g.count(6), 0);
        Checks.due("wring to the full one", g.wring(0, 7), 2);
        Checks.due("refusals", g.count(6), 1);
        Checks.due("wring the warm one", g.wring(1, 6), 3);
        g.rest(1);
        Checks.due("cool enough, but bad", g.refusal(1, 6), 4);
        Checks.due("wring the bad one", g.wring(1, 6), 4);
        Checks.due("wring a wrung one", g.wring(1, 0), 1);
        Checks.due("refusals", g.count(6), 4);
        Checks.due("wrung", g.count(3), 6);
        Checks.due("nothing was wrung", g.stackOf(1, 0), 0);
        Checks.due("a refused one stays as it is", g.blockOf(7, 3), 0);
        Checks.due("a refusal is undoable", g.undo(), 5);
        Checks.due("refusals", g.count(6), 3);
        g.takeOff(0);
        Checks.due("with five blocks there is room", g.refusal(0, 7), 0);
    }

    private static void edgesOfTheReasons() {
        GaugeBlocks g = new GaugeBlocks();
        g.block(1000, 500);
        g.block(1000, -501);
        Checks.due("grade 2", g.refusal(0, 0), 0);
        Checks.due("grade 3", g.refusal(0, 1), 4);
        g.hold(0, 60);
        Checks.due("300 is not greater than 300", g.refusal(0, 0), 0);
        g.hold(0, 1);
        Checks.due("305 is", g.refusal(0, 0), 3);
        g.set(1, 305);
        Checks.due("305 is not greater than 305", g.refusal(0, 0), 0);
        g.set(1, 0);
        Checks.due("cold ones pass a setting of 0", g.refusal(0, 1), 4);
        Checks.due("with 0 each warmth is too much", g.refusal(0, 0), 3);
    }

    private static void wringingWithoutSuchNumbers() {
        GaugeBlocks g = Checks.with(1000, 2000);
        for (int stack : new int[] {-1, 3, LOW, HIGH}) {
            Checks.dueIndex("wring(" + stack + ", 0)", g, () -> g.wring(stack, 0));
            Checks.dueIndex("refusal(" + stack + ", 0)", g, () -> g.refusal(stack, 0));
        }
        for (int block : new int[] {-1, 2, 20, LOW, HIGH}) {
            Checks.dueIndex("wring(0, " + block + ")", g, () -> g.wring(0, block));
            Checks.dueIndex("refusal(0, " + block + ")", g, () -> g.refusal(0, block));
        }
        Checks.due("the last stack and block", g.wring(2, 1), 0);
        Checks.due("the last stack and block", g.refusal(2, 1), 1);
    }

    private static void takingOff() {
        GaugeBlocks g = Checks.with(1000, 2000, 3000);
        g.wring(0, 1);
        g.wring(0, 2);
        g.wring(0, 0);
        Checks.due("the uppermost", g.takeOff(0), 0);
        Checks.due("it is free", g.blockOf(0, 6), -1);
        Checks.due("it has no place", g.blockOf(0, 7), -1);
        Checks.due("its warmth", g.blockOf(0, 3), 80);
        Checks.due("its wear", g.blockOf(0, 2), 6);
        Checks.due("the wear below", g.blockOf(2, 2), 9);
        Checks.due("the lowest one's wear", g.blockOf(1, 2), 3);
        Checks.due("the warmth below", g.blockOf(2, 3), 40);
        Checks.due("taken off", g.count(4), 1);
        Checks.due("the next", g.takeOff(0), 2);
        Checks.due("the lowest one's wear", g.blockOf(1, 2), 6);
        Checks.due("the lowest", g.takeOff(0), 1);
        Checks.due("no more wear", g.blockOf(1, 2), 6);
        Checks.due("its warmth", g.blockOf(1, 3), 80);
        Checks.due("taken off", g.count(4), 3);
        Checks.due("wrung", g.count(3), 3);
        Checks.dueState("none left", g, () -> g.takeOff(0));
        Checks.due("undo", g.undo(), 5);
        Checks.due("it is back", g.stackOf(0, 4), 1);
        Checks.due("taken off", g.count(4), 2);
    }

    private static void takingOffWithoutSuchNumbers() {
        GaugeBlocks g = Checks.with(1000);
        g.wring(1, 0);
        for (int stack : new int[] {-1, 3, LOW, HIGH}) {
            Checks.dueIndex("takeOff(" + stack + ")", g, () -> g.takeOff(stack));
        }
        Checks.dueState("takeOff(0)", g, () -> g.takeOff(0));
        Checks.dueState("takeOff(2)", g, () -> g.takeOff(2));
        Checks.due("takeOff(1)", g.takeOff(1), 0);
    }

    private static void making() {
        GaugeBlocks g = Checks.with(3000, 1000, 2000, 1500);
        Checks.due("3000 and 1500", g.make(1, 4500), 2);
        Checks.due("as a set", g.stackOf(1, 3), 9);
        Checks.due("the lower number below", g.blockOf(0, 7), 0);
        Checks.due("the higher number above", g.blockOf(3, 7), 1);
        Checks.due("wrung", g.count(3), 2);
        Checks.due("wear", g.count(5), 6);
        Checks.due("warmth", g.blockOf(0, 3), 40);
        Checks.due("undo", g.undo(), 4);
        Checks.due("as one call", g.stackOf(1, 0), 0);
        Checks.due("one block is fewer than two", g.make(0, 3000), 1);
        Checks.due("only free ones", g.make(1, 3000), 2);
        Checks.due("they are", g.stackOf(1, 3), 6);
        GaugeBlocks six = Checks.with(500, 501, 503, 507, 515, 531, 100000);
        Checks.due("six", six.make(0, 500 + 501 + 503 + 507 + 515 + 531), 6);
        Checks.due("six", six.stackOf(0, 3), 63);
        Checks.due("the last wrung", six.stackOf(0, 4), 5);
        GaugeBlocks longest = Checks.with(100000, 100000, 100000, 100000, 100000, 100000, 100000);
        Checks.due("600000", longest.make(0, 600000), 6);
        Checks.due("500", Checks.with(500).make(2, 500), 1);
    }

    private static void makingUpToARefusal() {
        GaugeBlocks g = Checks.with(1000, 2000, 4000, 8000);
        g.hold(1, 60);
        g.hold(1, 1);
        Checks.due("up to the warm one", g.make(0, 15000), 1);
        Checks.due("one is wrung", g.stackOf(0, 3), 1);
        Checks.due("one refusal", g.count(6), 1);
        Checks.due("one wringing", g.count(3), 1);
        g.undo();
        Checks.due("undone", g.count(6), 0);
        Checks.due("the first one is refused", g.make(0, 2000), 0);
        Checks.due("nothing wrung", g.stackOf(0, 0), 0);
        Checks.due("one refusal", g.count(6), 1);
        g.block(700, 800);
        Checks.due("a bad one last", g.make(2, 5700), 2);
        Checks.due("two are wrung", g.stackOf(2, 3), 5);
        Checks.due("refusals", g.count(6), 2);
    }

    private static void makingWithoutBlocks() {
        GaugeBlocks g = Checks.with(1000, 2000);
        Checks.due("no such blocks", g.make(0, 2500), -1);
        Checks.due("saved all the same", g.count(8), 3);
        Checks.due("no refusal", g.count(6), 0);
        Checks.due("no wringing", g.count(3), 0);
        Checks.due("undo", g.undo(), 2);
        Checks.due("both are there", g.count(0), 2);
        GaugeBlocks none = new GaugeBlocks();
        Checks.due("without blocks", none.make(0, 500), -1);
        Checks.due("saved", none.count(8), 1);
    }

    private static void makingWithWrongArguments() {
        GaugeBlocks g = Checks.with(1000, 2000);
        g.wring(1, 0);
        for (int stack : new int[] {-1, 3, LOW, HIGH}) {
            Checks.dueIndex("make(" + stack + ", 2000)", g, () -> g.make(stack, 2000));
            Checks.dueIndex("make(" + stack + ", 0)", g, () -> g.make(stack, 0));
        }
        for (int length : new int[] {499, 600001, 0, -1, LOW, HIGH}) {
            Checks.dueIllegal("make(0, " + length + ")", g, () -> g.make(0, length));
            Checks.dueIllegal("make(1, " + length + ")", g, () -> g.make(1, length));
        }
        Checks.dueState("make(1, 2000)", g, () -> g.make(1, 2000));
        Checks.dueState("make(1, 500)", g, () -> g.make(1, 500));
    }

    private static void numbersOfAStack() {
        GaugeBlocks g = new GaugeBlocks();
        int[] empty = {0, 0, 0, 0, -1, -1, 0};
        for (int what = 0; what <= 6; what++) {
            Checks.due("empty, stackOf(0, " + what + ")", g.stackOf(0, what), empty[what]);
        }
        g.block(1000, 7);
        g.block(3000, -120);
        g.block(5000, 300);
        g.set(3, 0);
        g.wring(0, 2);
        int[] one = {1, 5000, 5000300, 4, 2, 2, 300};
        for (int what = 0; what <= 6; what++) {
            Checks.due("one, stackOf(0, " + what + ")", g.stackOf(0, what), one[what]);
        }
        g.wring(0, 1);
        int[] two = {2, 8000, 8000000 + 297 - 123 + 10, 6, 1, 2, 184};
        for (int what = 0; what <= 6; what++) {
            Checks.due("two, stackOf(0, " + what + ")", g.stackOf(0, what), two[what]);
        }
        g.set(0, 60);
        g.wring(0, 0);
        int[] three = {3, 9000, 9000000 + 297 - 126 + 4 + 120, 7, 0, 2, 295};
        for (int what = 0; what <= 6; what++) {
            Checks.due("three, stackOf(0, " + what + ")", g.stackOf(0, what), three[what]);
        }
        for (int what : new int[] {-1, 7, LOW, HIGH}) {
            Checks.dueIllegal("stackOf(0, " + what + ")", g, () -> g.stackOf(0, what));
            Checks.dueIndex("stackOf(3, " + what + ")", g, () -> g.stackOf(3, what));
        }
        for (int stack : new int[] {-1, 3, LOW, HIGH}) {
            Checks.dueIndex("stackOf(" + stack + ", 0)", g, () -> g.stackOf(stack, 0));
        }
    }

    private static void numbersOfOtherStacks() {
        GaugeBlocks g = new GaugeBlocks();
        g.block(2000, -300);
        g.block(1000, 0);
        g.hold(1, 60);
        g.wring(2, 0);
        g.wring(1, 1);
        Checks.due("a short one's difference", g.stackOf(2, 6), 300 - 9);
        Checks.due("a warm one's length", g.stackOf(1, 2), 1000000 + 39);
        Checks.due("a grade 0", g.stackOf(1, 5), 0);
        Checks.due("a grade 2", g.stackOf(2, 5), 2);
        Checks.due("the empty one", g.stackOf(0, 0), 0);
        g.set(0, 0);
        g.block(1500, 0);
        g.wring(2, 2);
        Checks.due("without a film", g.stackOf(2, 2), 3500000 - 303 + 9 - 3 + 6);
    }
}
