/** The sentences of promises 1 to 7, 18 and 23: a new object, blocks, minutes, settings. */
final class BlocksSentences {
    private static final int LOW = Integer.MIN_VALUE;
    private static final int HIGH = Integer.MAX_VALUE;

    private BlocksSentences() {
    }

    // ---- promise 1

    @Sentence(of = "1", says = "Creates a case without blocks")
    static void newObject() {
        GaugeBlocks g = new GaugeBlocks();
        for (int what = 0; what <= 9; what++) {
            Checks.due("count " + what, g.count(what), 0);
        }
        Checks.dueIndex("no block 0", g, () -> g.blockOf(0, 0));
        Checks.due("none is ranked", g.ranked(0, 0), -1);
        Checks.dueState("nothing to undo", g, () -> g.undo());
    }

    // ---- promise 2: block

    @Sentence(of = "2", says = "Adds a block")
    static void blockAddsOne() {
        GaugeBlocks g = new GaugeBlocks();
        int[] due = {1234, 10056, 0, 0, 0, 1234056, -1, -1, 0};
        for (int block = 0; block < 20; block++) {
            g.block(1234, 56);
            Checks.due("blocks", g.count(0), block + 1);
            for (int what = 0; what <= 8; what++) {
                Checks.due("blockOf(" + block + ", " + what + ")", g.blockOf(block, what), due[what]);
            }
        }
    }

    @Sentence(of = "2", says = "Undoable")
    static void blockIsUndoable() {
        GaugeBlocks none = new GaugeBlocks();
        Checks.dueUndo("the first", none, () -> none.block(500, 0));
        GaugeBlocks g = Checks.full();
        g.discard(5);
        Checks.dueUndo("the twentieth", g, () -> g.block(100000, 900));
    }

    @Sentence(of = "2", says = "`nominal`: 500 to 100000")
    static void blockNominal() {
        GaugeBlocks g = new GaugeBlocks();
        for (int nominal : new int[] {500, 501, 99999, 100000}) {
            Checks.due("length", g.blockOf(g.block(nominal, 0), 0), nominal);
        }
    }

    @Sentence(of = "2", says = "`deviation`: -900 to 900")
    static void blockDeviation() {
        GaugeBlocks g = new GaugeBlocks();
        for (int deviation : new int[] {-900, -899, -1, 0, 1, 899, 900}) {
            Checks.due("error", g.blockOf(g.block(1000, deviation), 1), 10000 + deviation);
        }
    }

    @Sentence(of = "2", says = "Returns its number")
    static void blockReturns() {
        GaugeBlocks g = new GaugeBlocks();
        for (int block = 0; block < 20; block++) {
            Checks.due("number", g.block(1000, 0), block);
        }
        g.discard(0);
        Checks.due("the last number again", g.block(1000, 0), 19);
        g.undo();
        Checks.due("and again", g.block(1000, 0), 19);
    }

    @Sentence(of = "2", says = "Throws `IllegalArgumentException` if an argument is out of range")
    static void blockOutOfRange() {
        GaugeBlocks g = new GaugeBlocks();
        for (int nominal : new int[] {499, 100001, 0, -500, -100000, LOW, HIGH}) {
            Checks.dueIllegal("block(" + nominal + ", 0)", g, () -> g.block(nominal, 0));
        }
        for (int deviation : new int[] {-901, 901, LOW, HIGH}) {
            Checks.dueIllegal("block(500, " + deviation + ")", g, () -> g.block(500, deviation));
        }
        Checks.dueIllegal("both", g, () -> g.block(499, 901));
    }

    @Sentence(of = "2", says = "Throws `IllegalStateException` if there are 20 blocks")
    static void blockInAFullCase() {
        GaugeBlocks g = Checks.full();
        Checks.dueState("the 21st", g, () -> g.block(500, 0));
        g.wring(0, 0);
        Checks.dueState("wrung ones count", g, () -> g.block(500, 0));
        g.discard(19);
        Checks.due("with 19 blocks", g.block(500, 0), 19);
        Checks.dueState("the 21st again", g, () -> g.block(500, 0));
    }

    // ---- promise 3: discard

    @Sentence(of = "3", says = "Discards a block")
    static void discardTakesOneAway() {
        for (int gone = 0; gone < 5; gone++) {
            GaugeBlocks g = fiveBlocks(gone);
            GaugeBlocks before = fiveBlocks(gone);
            g.discard(gone);
            Checks.due("blocks", g.count(0), 4);
            for (int block = 0; block < 4; block++) {
                int was = block < gone ? block : block + 1;
                for (int what = 0; what <= 8; what++) {
                    Checks.due("blockOf(" + block + ", " + what + ") without " + gone, g.blockOf(block, what),
                        before.blockOf(was, what));
                }
            }
        }
    }

    /** Blocks of which each number is another one; all but one are in two stacks. */
    private static GaugeBlocks fiveBlocks(int free) {
        GaugeBlocks g = new GaugeBlocks();
        for (int block = 0; block < 5; block++) {
            g.block(1000 + 1000 * block, 100 * block);
            g.hold(block, 1 + block);
        }
        for (int times = 0; times < 3; times++) {
            g.wring(0, (free + 1) % 5);
            g.takeOff(0);
        }
        for (int next = 1; next < 5; next++) {
            g.wring(next % 2, (free + next) % 5);
        }
        return g;
    }

    @Sentence(of = "3", says = "Undoable")
    static void discardIsUndoable() {
        GaugeBlocks g = Checks.full();
        g.wring(0, 19);
        Checks.dueUndo("the first of 20", g, () -> g.discard(0));
        GaugeBlocks one = Checks.worn(300, 5);
        Checks.dueUndo("the only one", one, () -> one.discard(0));
    }

    @Sentence(of = "3", says = "`block`: its number")
    static void discardEachNumber() {
        for (int block : new int[] {0, 1, 18, 19}) {
            GaugeBlocks g = Checks.full();
            g.discard(block);
            Checks.due("one of the others has this number", g.lengths(block), block == 19 ? -1 : 1001 + block);
        }
    }

    @Sentence(of = "3", says = "Returns the number of blocks that are left")
    static void discardReturns() {
        GaugeBlocks g = Checks.full();
        for (int left = 19; left >= 0; left--) {
            Checks.due("left", g.discard(left / 2), left);
        }
        GaugeBlocks wrung = Checks.with(1000, 2000);
        wrung.wring(1, 0);
        Checks.due("a wrung one is left", wrung.discard(1), 1);
    }

    @Sentence(of = "3", says = "Throws `IndexOutOfBoundsException` if there is no such block")
    static void discardNoSuchBlock() {
        Checks.dueNoSuchBlock("discard", GaugeBlocks::discard);
    }

    @Sentence(of = "3", says = "Throws `IllegalStateException` if it is not free")
    static void discardWrungOne() {
        GaugeBlocks g = Checks.withSixIn(2);
        for (int block = 0; block < 6; block++) {
            int one = block;
            Checks.dueState("discard(" + one + ")", g, () -> g.discard(one));
        }
        g.takeOff(2);
        Checks.due("one that was taken off", g.discard(5), 6);
        for (int stack = 0; stack <= 1; stack++) {
            GaugeBlocks other = Checks.with(1000);
            other.wring(stack, 0);
            Checks.dueState("the only one", other, () -> other.discard(0));
        }
    }

    // ---- promise 4: calibrate

    @Sentence(of = "4",
        says = "Calibrates a block: its deviation becomes its error, but at least -900, and its wear becomes 0")
    static void calibrateMakesWearDeviation() {
        dueCalibrated(100, 41, 59);
        dueCalibrated(20, 41, -21);
        dueCalibrated(500, 0, 500);
        dueCalibrated(-500, 399, -899);
        dueCalibrated(-500, 400, -900);
        dueCalibrated(-500, 401, -900);
        dueCalibrated(-500, 1000, -900);
        GaugeBlocks g = new GaugeBlocks();
        g.block(1000, 900);
        g.block(1000, -900);
        g.calibrate(0);
        g.calibrate(1);
        Checks.due("900 stays", g.blockOf(0, 1), 10900);
        Checks.due("-900 stays", g.blockOf(1, 1), 9100);
    }

    private static void dueCalibrated(int deviation, int wear, int error) {
        GaugeBlocks g = Checks.worn(deviation, wear);
        Checks.due("wear", g.blockOf(0, 2), wear);
        Checks.due("error", g.blockOf(0, 1), 10000 + deviation - wear);
        g.calibrate(0);
        Checks.due("no wear", g.blockOf(0, 2), 0);
        Checks.due("error of " + deviation + " - " + wear, g.blockOf(0, 1), 10000 + error);
        Checks.due("true length", g.blockOf(0, 5), 1000000 + error);
    }

    @Sentence(of = "4", says = "Undoable")
    static void calibrateIsUndoable() {
        GaugeBlocks g = Checks.worn(-500, 401);
        Checks.dueUndo("below -900", g, () -> g.calibrate(0));
        Checks.due("the wear is back", g.blockOf(0, 2), 401);
        GaugeBlocks unworn = Checks.with(1000);
        Checks.dueUndo("nothing changes", unworn, () -> unworn.calibrate(0));
    }

    @Sentence(of = "4", says = "`block`: its number")
    static void calibrateEachNumber() {
        for (int block : new int[] {0, 18, 19}) {
            GaugeBlocks g = Checks.full();
            g.wring(0, 17);
            g.wring(0, block);
            g.takeOff(0);
            Checks.due("wear of both", g.count(5), 12);
            g.calibrate(block);
            Checks.due("wear of the other one", g.count(5), 6);
            Checks.due("no wear", g.blockOf(block, 2), 0);
        }
    }

    @Sentence(of = "4", says = "Returns its grade then")
    static void calibrateReturns() {
        int[] wear = {0, 200, 201, 350, 351, 600, 601, 1000};
        int[] grade = {0, 0, 1, 1, 2, 2, 3, 3};
        for (int i = 0; i < wear.length; i++) {
            GaugeBlocks g = Checks.worn(100, wear[i]);
            Checks.due("worn by " + wear[i], g.calibrate(0), grade[i]);
            Checks.due("then", g.blockOf(0, 4), grade[i]);
        }
    }

    @Sentence(of = "4", says = "Throws `IndexOutOfBoundsException` if there is no such block")
    static void calibrateNoSuchBlock() {
        Checks.dueNoSuchBlock("calibrate", GaugeBlocks::calibrate);
    }

    @Sentence(of = "4", says = "Throws `IllegalStateException` if it is not free")
    static void calibrateWrungOne() {
        for (int stack = 0; stack <= 2; stack++) {
            GaugeBlocks g = Checks.withSixIn(stack);
            for (int block = 0; block < 6; block++) {
                int one = block;
                Checks.dueState("calibrate(" + one + ")", g, () -> g.calibrate(one));
            }
            g.takeOff(stack);
            Checks.due("one that was taken off", g.calibrate(5), 0);
        }
    }

    // ---- promise 5: hold

    @Sentence(of = "5",
        says = "Holds a block in the hand: its warmth increases by 5 for each second, but at most to 1000")
    static void holdWarms() {
        GaugeBlocks g = Checks.with(1000, 2000);
        for (int seconds = 1; seconds <= 4; seconds++) {
            g.hold(0, seconds);
        }
        Checks.due("10 seconds", g.blockOf(0, 3), 50);
        Checks.due("the other one", g.blockOf(1, 3), 0);
        Checks.warmTo(g, 0, 995);
        g.hold(0, 1);
        Checks.due("995 and 5", g.blockOf(0, 3), 1000);
        g.hold(0, 1);
        Checks.due("1000 and 5", g.blockOf(0, 3), 1000);
        g.wring(0, 1);
        Checks.warmTo(g, 1, 990);
        g.set(3, 6);
        g.takeOff(0);
        Checks.due("990 and 6", g.blockOf(1, 3), 996);
        g.hold(1, 1);
        Checks.due("996 and 5", g.blockOf(1, 3), 1000);
    }

    @Sentence(of = "5", says = "Undoable")
    static void holdIsUndoable() {
        GaugeBlocks g = Checks.with(1000);
        Checks.dueUndo("a cold one", g, () -> g.hold(0, 60));
        Checks.warmTo(g, 0, 1000);
        Checks.dueUndo("at 1000, where nothing changes", g, () -> g.hold(0, 60));
    }

    @Sentence(of = "5", says = "`block`: its number")
    static void holdEachNumber() {
        GaugeBlocks g = Checks.full();
        g.wring(1, 7);
        for (int block : new int[] {0, 7, 19}) {
            int before = g.blockOf(block, 3);
            Checks.due("block " + block, g.hold(block, 1), before + 5);
        }
        Checks.due("only these", g.ranked(1, 3), 1);
    }

    @Sentence(of = "5", says = "`seconds`: 1 to 60")
    static void holdSeconds() {
        for (int seconds : new int[] {1, 2, 59, 60}) {
            GaugeBlocks g = Checks.with(1000);
            g.hold(0, seconds);
            Checks.due(seconds + " seconds", g.blockOf(0, 3), 5 * seconds);
        }
    }

    @Sentence(of = "5", says = "Returns its warmth then")
    static void holdReturns() {
        GaugeBlocks g = Checks.with(1000);
        Checks.due("a second", g.hold(0, 1), 5);
        Checks.due("a minute", g.hold(0, 60), 305);
        Checks.warmTo(g, 0, 990);
        Checks.due("up to 995", g.hold(0, 1), 995);
        Checks.due("up to 1000", g.hold(0, 1), 1000);
        Checks.due("not more", g.hold(0, 60), 1000);
    }

    @Sentence(of = "5", says = "Throws `IndexOutOfBoundsException` if there is no such block")
    static void holdNoSuchBlock() {
        for (int seconds : new int[] {0, 1, 60, 61}) {
            Checks.dueNoSuchBlock("hold", (g, block) -> g.hold(block, seconds));
        }
    }

    @Sentence(of = "5", says = "Throws `IllegalArgumentException` if seconds is out of range")
    static void holdOutOfRange() {
        GaugeBlocks g = Checks.with(1000);
        for (int seconds : new int[] {0, 61, -1, LOW, HIGH, 858993460}) {
            Checks.dueIllegal("hold(0, " + seconds + ")", g, () -> g.hold(0, seconds));
        }
    }

    // ---- promise 6: rest

    @Sentence(of = "6", says = "Lets minutes pass")
    static void restLetsMinutesPass() {
        GaugeBlocks g = Checks.with(1000, 2000, 3000);
        g.hold(0, 20);
        g.hold(1, 2);
        g.wring(2, 0);
        g.rest(2);
        Checks.due("a wrung one: 140, 126, 113", g.blockOf(0, 3), 113);
        Checks.due("a free one: 10, 9, 8", g.blockOf(1, 3), 8);
        Checks.due("a cold one", g.blockOf(2, 3), 0);
        Checks.due("minutes", g.count(2), 2);
        g.rest(60);
        Checks.due("cold", g.blockOf(0, 3), 0);
        Checks.due("minutes", g.count(2), 62);
    }

    @Sentence(of = "6", says = "Undoable, as one call")
    static void restIsUndoable() {
        GaugeBlocks g = Checks.with(1000, 2000);
        Checks.warmTo(g, 0, 1000);
        g.hold(1, 1);
        Checks.dueUndo("60 minutes", g, () -> g.rest(60));
        Checks.dueUndo("a minute", g, () -> g.rest(1));
        GaugeBlocks none = new GaugeBlocks();
        Checks.dueUndo("without blocks", none, () -> none.rest(60));
        Checks.due("no minutes", none.count(2), 0);
    }

    @Sentence(of = "6", says = "`minutes`: 1 to 60")
    static void restMinutes() {
        for (int minutes : new int[] {1, 2, 59, 60}) {
            GaugeBlocks g = new GaugeBlocks();
            g.rest(minutes);
            Checks.due(minutes + " minutes", g.count(2), minutes);
        }
    }

    @Sentence(of = "6", says = "Returns the greatest warmth of a block then; 0 without blocks")
    static void restReturns() {
        Checks.due("without blocks", new GaugeBlocks().rest(1), 0);
        Checks.due("cold ones", Checks.with(1000, 2000).rest(1), 0);
        for (int warm = 0; warm < 3; warm++) {
            GaugeBlocks g = Checks.with(1000, 2000, 3000);
            g.hold(0, 4);
            g.hold(1, 4);
            g.hold(2, 4);
            g.hold(warm, 6);
            g.wring(0, warm);
            Checks.due("90 - 9", g.rest(1), 81);
        }
        GaugeBlocks g = Checks.with(1000);
        g.discard(0);
        Checks.due("without blocks any more", g.rest(60), 0);
    }

    @Sentence(of = "6", says = "Throws `IllegalArgumentException` if minutes is out of range")
    static void restOutOfRange() {
        GaugeBlocks g = Checks.with(1000);
        g.hold(0, 60);
        for (int minutes : new int[] {0, 61, -1, LOW, HIGH}) {
            Checks.dueIllegal("rest(" + minutes + ")", g, () -> g.rest(minutes));
        }
    }

    // ---- promise 7: set

    @Sentence(of = "7", says = "Changes a setting")
    static void setChangesOne() {
        for (int setting = 0; setting <= 3; setting++) {
            GaugeBlocks g = new GaugeBlocks();
            int[] due = {10, 300, 3, 40};
            g.set(setting, 7);
            due[setting] = 7;
            for (int other = 0; other <= 3; other++) {
                Checks.due("setting " + other, g.setting(other), due[other]);
            }
        }
    }

    @Sentence(of = "7", says = "Undoable")
    static void setIsUndoable() {
        GaugeBlocks g = new GaugeBlocks();
        for (int setting = 0; setting <= 3; setting++) {
            int one = setting;
            Checks.dueUndo("set(" + one + ", 5)", g, () -> g.set(one, 5));
            Checks.dueUndo("set to the same", g, () -> g.set(one, g.setting(one)));
        }
    }

    @Sentence(of = "7", says = "`setting`: 0 to 3")
    static void setEachNumber() {
        GaugeBlocks g = new GaugeBlocks();
        int[] first = {10, 300, 3, 40};
        for (int setting = 0; setting <= 3; setting++) {
            Checks.due("set(" + setting + ", 1)", g.set(setting, 1), first[setting]);
        }
    }

    @Sentence(of = "7", says = "`value`: the new value")
    static void setEachValue() {
        int[] greatest = {60, 1000, 20, 200};
        GaugeBlocks g = new GaugeBlocks();
        for (int setting = 0; setting <= 3; setting++) {
            for (int value : new int[] {0, 1, greatest[setting] - 1, greatest[setting]}) {
                g.set(setting, value);
                Checks.due("setting " + setting, g.setting(setting), value);
            }
        }
    }

    @Sentence(of = "7", says = "Returns the previous value")
    static void setReturns() {
        GaugeBlocks g = new GaugeBlocks();
        Checks.due("the one at first", g.set(1, 1000), 300);
        Checks.due("the greatest", g.set(1, 0), 1000);
        Checks.due("the least", g.set(1, 0), 0);
        Checks.due("the same", g.set(1, 300), 0);
        g.undo();
        Checks.due("the one that undo restored", g.set(1, 5), 0);
    }

    @Sentence(of = "7", says = "Throws `IndexOutOfBoundsException` if there is no such setting")
    static void setNoSuchSetting() {
        GaugeBlocks g = new GaugeBlocks();
        for (int setting : new int[] {-1, 4, LOW, HIGH}) {
            Checks.dueIndex("set(" + setting + ", 0)", g, () -> g.set(setting, 0));
            Checks.dueIndex("set(" + setting + ", -1)", g, () -> g.set(setting, -1));
        }
    }

    @Sentence(of = "7", says = "Throws `IllegalArgumentException` if value is out of range")
    static void setOutOfRange() {
        int[] greatest = {60, 1000, 20, 200};
        GaugeBlocks g = new GaugeBlocks();
        for (int setting = 0; setting <= 3; setting++) {
            int one = setting;
            for (int value : new int[] {-1, greatest[setting] + 1, LOW, HIGH}) {
                Checks.dueIllegal("set(" + one + ", " + value + ")", g, () -> g.set(one, value));
            }
        }
    }

    // ---- promise 18: blockOf

    @Sentence(of = "18", says = "Returns a number of a block")
    static void blockOfAnswersForThisBlock() {
        GaugeBlocks g = Checks.with(1000, 2000);
        g.hold(1, 10);
        g.wring(0, 1);
        int[] first = {1000, 10000, 0, 0, 0, 1000000, -1, -1, 0};
        int[] second = {2000, 10000, 0, 90, 0, 2000020, 0, 0, 1};
        for (int what = 0; what <= 8; what++) {
            Checks.due("blockOf(0, " + what + ")", g.blockOf(0, what), first[what]);
            Checks.due("blockOf(1, " + what + ")", g.blockOf(1, what), second[what]);
        }
    }

    @Sentence(of = "18", says = "`block`: its number")
    static void blockOfEachNumber() {
        GaugeBlocks g = Checks.full();
        for (int block : new int[] {0, 1, 18, 19}) {
            Checks.due("length of " + block, g.blockOf(block, 0), 1000 + block);
        }
    }

    @Sentence(of = "18", says = "`what`: 0 its nominal length, 1 its error, plus 10000, 2 its wear, 3 its warmth, 4 "
        + "its grade, 5 its true length, 6 the stack in which it is (NONE if it is free), 7 its place in this stack, "
        + "0 for the lowest one (NONE if it is free), 8 how often it was wrung to a stack so far (not counted when "
        + "another one is wrung to it)")
    static void blockOfEachWhat() {
        for (int stack = 0; stack <= 2; stack++) {
            GaugeBlocks g = Checks.withSixIn(stack);
            for (int block = 0; block < 6; block++) {
                int wear = block == 0 || block == 5 ? 3 : 6;
                int length = 1000 + 1000 * block;
                int[] due = {length, 10000 - wear, wear, 40, 0,
                    1000 * length - wear + length * 40 / 1000 * 115 / 1000, stack, block, 1};
                for (int what = 0; what <= 8; what++) {
                    Checks.due("blockOf(" + block + ", " + what + ")", g.blockOf(block, what), due[what]);
                }
            }
            int[] free = {7000, 10000, 0, 0, 0, 7000000, -1, -1, 0};
            for (int what = 0; what <= 8; what++) {
                Checks.due("blockOf(6, " + what + ")", g.blockOf(6, what), free[what]);
            }
        }
        GaugeBlocks worst = Checks.worn(-500, 1000);
        Checks.due("an error below -900, plus 10000", worst.blockOf(0, 1), 8500);
        Checks.due("its wear", worst.blockOf(0, 2), 1000);
        Checks.due("its grade", worst.blockOf(0, 4), 3);
        Checks.due("wrung once, though others were wrung to it", worst.blockOf(0, 8), 1);
        worst.wring(0, 0);
        Checks.due("a refused one isn't wrung", worst.blockOf(0, 8), 1);
        Checks.due("a refused one is free", worst.blockOf(0, 6), -1);
        GaugeBlocks again = Checks.with(1000);
        for (int times = 1; times <= 3; times++) {
            again.wring(times - 1, 0);
            again.takeOff(times - 1);
            Checks.due("wrung again", again.blockOf(0, 8), times);
        }
    }

    @Sentence(of = "18", says = "Returns the number")
    static void blockOfReturns() {
        GaugeBlocks g = Checks.with(100000);
        Checks.warmTo(g, 0, 1000);
        Checks.due("the greatest true length without deviation", g.blockOf(0, 5), 100011500);
        Checks.due("a free one has no place", g.blockOf(0, 7), -1);
        g.set(1, 1000);
        g.wring(0, 0);
        Checks.due("the lowest place is 0, not NONE", g.blockOf(0, 7), 0);
    }

    @Sentence(of = "18", says = "Throws `IndexOutOfBoundsException` if there is no such block")
    static void blockOfNoSuchBlock() {
        for (int what : new int[] {-1, 0, 1, 2, 3, 4, 5, 6, 7, 8, 9}) {
            Checks.dueNoSuchBlock("blockOf " + what, (g, block) -> g.blockOf(block, what));
        }
    }

    @Sentence(of = "18", says = "Throws `IllegalArgumentException` if what is not 0 to 8")
    static void blockOfOutOfRange() {
        GaugeBlocks g = Checks.with(1000);
        for (int what : new int[] {-1, 9, LOW, HIGH}) {
            Checks.dueIllegal("blockOf(0, " + what + ")", g, () -> g.blockOf(0, what));
        }
    }

    // ---- promise 23: setting

    @Sentence(of = "23", says = "Returns a setting")
    static void settingAtFirst() {
        int[] first = {10, 300, 3, 40};
        for (int setting = 0; setting <= 3; setting++) {
            Checks.due("setting(" + setting + ")", new GaugeBlocks().setting(setting), first[setting]);
        }
    }

    @Sentence(of = "23", says = "`setting`: 0 to 3")
    static void settingEachNumber() {
        GaugeBlocks g = new GaugeBlocks();
        for (int setting = 0; setting <= 3; setting++) {
            g.set(setting, 11 + setting);
        }
        for (int setting = 0; setting <= 3; setting++) {
            Checks.due("setting(" + setting + ")", g.setting(setting), 11 + setting);
        }
    }

    @Sentence(of = "23", says = "Returns its value")
    static void settingReturns() {
        GaugeBlocks g = new GaugeBlocks();
        g.set(3, 200);
        Checks.due("the greatest", g.setting(3), 200);
        g.set(3, 0);
        Checks.due("the least", g.setting(3), 0);
        g.undo();
        Checks.due("after undo", g.setting(3), 200);
        Checks.dueIllegal("a refused value", g, () -> g.set(3, 201));
        Checks.due("as before", g.setting(3), 200);
    }

    @Sentence(of = "23", says = "Throws `IndexOutOfBoundsException` if there is no such setting")
    static void settingNoSuchSetting() {
        GaugeBlocks g = new GaugeBlocks();
        for (int setting : new int[] {-1, 4, LOW, HIGH}) {
            Checks.dueIndex("setting(" + setting + ")", g, () -> g.setting(setting));
        }
    }
}
