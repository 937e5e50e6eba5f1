/** Promises 1 to 7, 18 and 23: a new object, blocks, minutes and settings. */
final class BlocksTest {
    private static final int LOW = Integer.MIN_VALUE;
    private static final int HIGH = Integer.MAX_VALUE;

    private BlocksTest() {
    }

    public static void main(String[] args) {
        newObject();
        blocksCome();
        blocksAreRefusedAsArguments();
        blocksGo();
        blocksThatCannotGo();
        calibration();
        calibrationStopsAt900();
        hands();
        minutes();
        settings();
        settingsOutOfRange();
        numbersOfABlock();
        grades();
        trueLengthOfABlock();
        Checks.end("BlocksTest");
    }

    private static void newObject() {
        GaugeBlocks g = new GaugeBlocks();
        for (int what = 0; what <= 9; what++) {
            Checks.due("new, count " + what, g.count(what), 0);
        }
        for (int stack = 0; stack <= 2; stack++) {
            Checks.due("new, height of stack " + stack, g.stackOf(stack, 0), 0);
        }
        Checks.due("new, firstError", g.firstError(), 0);
        Checks.dueState("new, undo", g, () -> g.undo());
        Checks.dueState("new, goBack 0", g, () -> g.goBack(0));
        Checks.dueState("new, goBack 1", g, () -> g.goBack(1));
        int[] first = {10, 300, 3, 40};
        for (int setting = 0; setting <= 3; setting++) {
            Checks.due("new, setting " + setting, g.setting(setting), first[setting]);
        }
    }

    private static void blocksCome() {
        GaugeBlocks g = new GaugeBlocks();
        Checks.due("the shortest block", g.block(500, -900), 0);
        Checks.due("the longest block", g.block(100000, 900), 1);
        Checks.due("shortest length", g.blockOf(0, 0), 500);
        Checks.due("least error", g.blockOf(0, 1), 9100);
        Checks.due("longest length", g.blockOf(1, 0), 100000);
        Checks.due("greatest error", g.blockOf(1, 1), 10900);
        for (int block = 2; block < 20; block++) {
            Checks.due("block " + block, g.block(1000 * block, block), block);
        }
        Checks.due("blocks", g.count(0), 20);
        Checks.dueState("the block 20", g, () -> g.block(500, 0));
        Checks.dueState("the block 20 again", g, () -> g.block(100000, 900));
        for (int block = 2; block < 20; block++) {
            Checks.due("length of " + block, g.blockOf(block, 0), 1000 * block);
            Checks.due("error of " + block, g.blockOf(block, 1), 10000 + block);
        }
        Checks.due("saved states", g.count(8), 6);
    }

    private static void blocksAreRefusedAsArguments() {
        GaugeBlocks g = Checks.full();
        for (GaugeBlocks some : new GaugeBlocks[] {new GaugeBlocks(), g}) {
            for (int nominal : new int[] {499, 100001, 0, -500, LOW, HIGH}) {
                Checks.dueIllegal("block(" + nominal + ", 0)", some, () -> some.block(nominal, 0));
            }
            for (int deviation : new int[] {-901, 901, LOW, HIGH}) {
                Checks.dueIllegal("block(500, " + deviation + ")", some, () -> some.block(500, deviation));
            }
        }
    }

    private static void blocksGo() {
        GaugeBlocks g = new GaugeBlocks();
        for (int i = 0; i < 5; i++) {
            g.block(1000 + i, 10 * i);
            g.hold(i, 10 + i);
        }
        g.wring(1, 3);
        g.wring(1, 4);
        g.wring(2, 2);
        Checks.due("discard in the midst", g.discard(1), 4);
        int[] was = {0, 2, 3, 4};
        int[] stack = {-1, 2, 1, 1};
        int[] place = {-1, 0, 0, 1};
        int[] wear = {0, 0, 3, 3};
        int[] warmth = {50, 100, 105, 110};
        int[] wrung = {0, 1, 1, 1};
        for (int i = 0; i < 4; i++) {
            Checks.due("length of the later " + i, g.blockOf(i, 0), 1000 + was[i]);
            Checks.due("error of the later " + i, g.blockOf(i, 1), 10000 + 10 * was[i] - wear[i]);
            Checks.due("wear of the later " + i, g.blockOf(i, 2), wear[i]);
            Checks.due("warmth of the later " + i, g.blockOf(i, 3), warmth[i]);
            Checks.due("stack of the later " + i, g.blockOf(i, 6), stack[i]);
            Checks.due("place of the later " + i, g.blockOf(i, 7), place[i]);
            Checks.due("wringings of the later " + i, g.blockOf(i, 8), wrung[i]);
        }
        Checks.due("set of stack 1", g.stackOf(1, 3), 12);
        Checks.due("top of stack 1", g.stackOf(1, 4), 3);
        Checks.due("discard the first", g.discard(0), 3);
        Checks.due("the top off", g.takeOff(1), 2);
        Checks.due("discard the last", g.discard(2), 2);
        Checks.due("a new one after it", g.block(700, 0), 2);
        Checks.due("its warmth", g.blockOf(2, 3), 0);
        Checks.due("its wear", g.blockOf(2, 2), 0);
        Checks.due("its wringings", g.blockOf(2, 8), 0);
        Checks.due("its stack", g.blockOf(2, 6), -1);
        Checks.due("discard it", g.discard(2), 2);
        Checks.due("one more off", g.takeOff(2), 0);
        Checks.due("discard it", g.discard(0), 1);
        Checks.due("one more off", g.takeOff(1), 0);
        Checks.due("discard the only one", g.discard(0), 0);
    }

    private static void blocksThatCannotGo() {
        GaugeBlocks g = Checks.with(1000, 2000);
        g.wring(0, 1);
        for (int block : new int[] {-1, 2, 20, LOW, HIGH}) {
            Checks.dueIndex("discard(" + block + ")", g, () -> g.discard(block));
            Checks.dueIndex("calibrate(" + block + ")", g, () -> g.calibrate(block));
        }
        Checks.dueState("discard a wrung one", g, () -> g.discard(1));
        Checks.dueState("calibrate a wrung one", g, () -> g.calibrate(1));
        GaugeBlocks full = Checks.full();
        Checks.dueIndex("discard(20) of 20", full, () -> full.discard(20));
        Checks.due("discard(19) of 20", full.discard(19), 19);
        Checks.dueIndex("discard(19) of 19", full, () -> full.discard(19));
        GaugeBlocks empty = new GaugeBlocks();
        Checks.dueIndex("discard(0) of none", empty, () -> empty.discard(0));
    }

    private static void calibration() {
        GaugeBlocks g = new GaugeBlocks();
        g.block(1000, 105);
        g.block(2000, 0);
        g.wring(0, 1);
        g.wring(0, 0);
        g.takeOff(0);
        Checks.due("wear before", g.blockOf(0, 2), 6);
        Checks.due("error before", g.blockOf(0, 1), 10099);
        int saved = g.count(8);
        Checks.due("calibrate", g.calibrate(0), 0);
        Checks.due("saved", g.count(8), saved + 1);
        Checks.due("wear after", g.blockOf(0, 2), 0);
        Checks.due("error after", g.blockOf(0, 1), 10099);
        Checks.due("true length after", g.blockOf(0, 5), 1000000 + 99 + 9);
        g.undo();
        Checks.due("wear after undo", g.blockOf(0, 2), 6);
        g.block(3000, 501);
        Checks.due("grade 3 stays", g.calibrate(2), 3);
        Checks.due("its error stays", g.blockOf(2, 1), 10501);
        g.block(3000, 900);
        g.calibrate(3);
        Checks.due("900 stays", g.blockOf(3, 1), 10900);
    }

    private static void calibrationStopsAt900() {
        GaugeBlocks exact = wornOut(10);
        Checks.due("wear", exact.blockOf(0, 2), 400);
        Checks.due("an error of -900", exact.blockOf(0, 1), 9100);
        Checks.due("its grade", exact.calibrate(0), 3);
        Checks.due("it stays", exact.blockOf(0, 1), 9100);
        GaugeBlocks below = wornOut(11);
        Checks.due("an error of -940", below.blockOf(0, 1), 9060);
        Checks.due("its grade", below.calibrate(0), 3);
        Checks.due("it becomes -900", below.blockOf(0, 1), 9100);
        Checks.due("no wear", below.blockOf(0, 2), 0);
    }

    /** Block 0 with the deviation -500 and 40 nanometres of wear for each time. */
    private static GaugeBlocks wornOut(int times) {
        GaugeBlocks g = new GaugeBlocks();
        g.block(1000, -500);
        g.block(1000, 0);
        g.set(1, 1000);
        g.set(2, 20);
        g.wring(0, 0);
        for (int i = 0; i < times; i++) {
            g.wring(0, 1);
            g.takeOff(0);
            g.calibrate(1);
        }
        g.takeOff(0);
        return g;
    }

    private static void hands() {
        GaugeBlocks g = Checks.with(1000, 2000);
        Checks.due("a second", g.hold(0, 1), 5);
        Checks.due("a minute", g.hold(1, 60), 300);
        Checks.due("more", g.hold(1, 60), 600);
        Checks.due("more", g.hold(1, 60), 900);
        Checks.due("nearly 1000", g.hold(1, 19), 995);
        Checks.due("exactly 1000", g.hold(1, 1), 1000);
        Checks.due("not more", g.hold(1, 1), 1000);
        Checks.due("not more by far", g.hold(1, 60), 1000);
        Checks.due("the other one", g.blockOf(0, 3), 5);
        g.wring(0, 0);
        Checks.due("one in a stack", g.hold(0, 2), 55);
        for (int seconds : new int[] {0, 61, -1, LOW, HIGH}) {
            Checks.dueIllegal("hold(0, " + seconds + ")", g, () -> g.hold(0, seconds));
            Checks.dueIndex("hold(2, " + seconds + ")", g, () -> g.hold(2, seconds));
        }
        for (int block : new int[] {-1, 2, LOW, HIGH}) {
            Checks.dueIndex("hold(" + block + ", 1)", g, () -> g.hold(block, 1));
        }
        Checks.due("undoable", g.undo() + g.blockOf(0, 3), 5 + 45);
    }

    private static void minutes() {
        GaugeBlocks g = new GaugeBlocks();
        Checks.due("rest without blocks", g.rest(60), 0);
        Checks.due("minutes", g.count(2), 60);
        g.block(1000, 0);
        g.block(1000, 0);
        g.block(1000, 0);
        g.hold(0, 2);
        g.hold(1, 60);
        g.hold(2, 3);
        Checks.due("a minute", g.rest(1), 270);
        Checks.due("10 became 9", g.blockOf(0, 3), 9);
        Checks.due("15 became 13", g.blockOf(2, 3), 13);
        Checks.due("two minutes", g.rest(2), 218);
        Checks.due("9 became 7", g.blockOf(0, 3), 7);
        Checks.due("13 became 11 and 9", g.blockOf(2, 3), 9);
        Checks.due("minutes", g.count(2), 63);
        Checks.due("undo", g.undo(), 5);
        Checks.due("undone as one call", g.blockOf(1, 3), 270);
        Checks.due("minutes undone", g.count(2), 61);
        Checks.due("an hour", g.rest(60), 0);
        Checks.due("cold stays cold", g.rest(1), 0);
        g.hold(0, 60);
        Checks.due("the first one is the warmest", g.rest(1), 270);
        for (int minutes : new int[] {0, 61, -1, LOW, HIGH}) {
            Checks.dueIllegal("rest(" + minutes + ")", g, () -> g.rest(minutes));
        }
    }

    private static void settings() {
        int[] first = {10, 300, 3, 40};
        int[] greatest = {60, 1000, 20, 200};
        GaugeBlocks g = new GaugeBlocks();
        for (int setting = 0; setting <= 3; setting++) {
            Checks.due("set to 0", g.set(setting, 0), first[setting]);
            Checks.due("it is 0", g.setting(setting), 0);
            Checks.due("set to the greatest", g.set(setting, greatest[setting]), 0);
            Checks.due("it is the greatest", g.setting(setting), greatest[setting]);
            for (int other = setting + 1; other <= 3; other++) {
                Checks.due("the others stay", g.setting(other), first[other]);
            }
        }
        Checks.due("undo", g.undo(), 5);
        Checks.due("setting 3", g.setting(3), 0);
        g.undo();
        Checks.due("setting 3", g.setting(3), 40);
    }

    private static void settingsOutOfRange() {
        int[] greatest = {60, 1000, 20, 200};
        GaugeBlocks g = new GaugeBlocks();
        for (int setting = 0; setting <= 3; setting++) {
            int one = setting;
            Checks.dueIllegal("set(" + one + ", -1)", g, () -> g.set(one, -1));
            Checks.dueIllegal("set(" + one + ", more)", g, () -> g.set(one, greatest[one] + 1));
            Checks.dueIllegal("set(" + one + ", LOW)", g, () -> g.set(one, LOW));
            Checks.dueIllegal("set(" + one + ", HIGH)", g, () -> g.set(one, HIGH));
        }
        for (int setting : new int[] {-1, 4, LOW, HIGH}) {
            Checks.dueIndex("set(" + setting + ", 0)", g, () -> g.set(setting, 0));
            Checks.dueIndex("set(" + setting + ", -1)", g, () -> g.set(setting, -1));
            Checks.dueIndex("setting(" + setting + ")", g, () -> g.setting(setting));
        }
    }

    private static void numbersOfABlock() {
        GaugeBlocks g = new GaugeBlocks();
        g.block(3000, 7);
        g.block(2000, -120);
        g.hold(1, 20);
        int[] free = {2000, 9880, 0, 100, 1, 2000000 - 120 + 23, -1, -1, 0};
        for (int what = 0; what <= 8; what++) {
            Checks.due("free, blockOf(1, " + what + ")", g.blockOf(1, what), free[what]);
        }
        g.wring(2, 0);
        g.wring(2, 1);
        int[] wrung = {2000, 9877, 3, 140, 1, 2000000 - 123 + 32, 2, 1, 1};
        for (int what = 0; what <= 8; what++) {
            Checks.due("wrung, blockOf(1, " + what + ")", g.blockOf(1, what), wrung[what]);
        }
        Checks.due("wrung once, the one below", g.blockOf(0, 8), 1);
        Checks.due("place of the one below", g.blockOf(0, 7), 0);
        for (int what : new int[] {-1, 9, LOW, HIGH}) {
            Checks.dueIllegal("blockOf(1, " + what + ")", g, () -> g.blockOf(1, what));
            Checks.dueIndex("blockOf(2, " + what + ")", g, () -> g.blockOf(2, what));
        }
        for (int block : new int[] {-1, 2, 20, LOW, HIGH}) {
            Checks.dueIndex("blockOf(" + block + ", 0)", g, () -> g.blockOf(block, 0));
        }
    }

    private static void grades() {
        int[] error = {0, 100, 101, 250, 251, 500, 501, 900};
        int[] grade = {0, 0, 1, 1, 2, 2, 3, 3};
        GaugeBlocks g = new GaugeBlocks();
        for (int i = 0; i < error.length; i++) {
            int plus = g.block(1000, error[i]);
            int minus = g.block(1000, -error[i]);
            Checks.due("grade of " + error[i], g.blockOf(plus, 4), grade[i]);
            Checks.due("grade of -" + error[i], g.blockOf(minus, 4), grade[i]);
        }
    }

    private static void trueLengthOfABlock() {
        GaugeBlocks g = new GaugeBlocks();
        g.block(99999, -900);
        g.block(1999, 900);
        Checks.due("cold", g.blockOf(0, 5), 99998100);
        g.hold(0, 60);
        g.hold(0, 60);
        g.hold(0, 60);
        g.hold(0, 20);
        Checks.due("99999 * 1000 / 1000 * 115 / 1000 is 11499", g.blockOf(0, 5), 99998100 + 11499);
        g.hold(1, 1);
        Checks.due("1999 * 5 / 1000 * 115 / 1000 is 1", g.blockOf(1, 5), 1999900 + 1);
        g.hold(1, 6);
        Checks.due("1999 * 35 / 1000 * 115 / 1000 is 7", g.blockOf(1, 5), 1999900 + 7);
        g.hold(1, 23);
        Checks.due("1999 * 150 / 1000 * 115 / 1000 is 34", g.blockOf(1, 5), 1999900 + 34);
    }
}
