/** What the tests have in common: comparing answers, awaiting exceptions, typing texts. */
final class Checks {
    private static int made = 0;
    private static int wrong = 0;

    interface Call {
        int run();
    }

    interface CallOfBlock {
        int run(GaugeBlocks blocks, int block);
    }

    private Checks() {
    }

    static void due(String call, long got, long want) {
        made++;
        if (got != want) {
            fail(call + " answered " + got + ", due is " + want);
        }
    }

    static void dueDouble(String call, double got, double want) {
        made++;
        if (Double.compare(got, want) != 0) {
            fail(call + " answered " + got + ", due is " + want);
        }
    }

    static void dueTrue(String what, boolean holds) {
        made++;
        if (!holds) {
            fail(what);
        }
    }

    static void dueIllegal(String name, GaugeBlocks blocks, Call call) {
        dueThrow(name, blocks, IllegalArgumentException.class, call);
    }

    static void dueState(String name, GaugeBlocks blocks, Call call) {
        dueThrow(name, blocks, IllegalStateException.class, call);
    }

    static void dueIndex(String name, GaugeBlocks blocks, Call call) {
        dueThrow(name, blocks, IndexOutOfBoundsException.class, call);
    }

    /** Numbers beyond both ends: of 20 blocks, when one of them has gone, and without blocks. */
    static void dueNoSuchBlock(String name, CallOfBlock call) {
        GaugeBlocks full = full();
        for (int block : new int[] {-1, 20, 32, Integer.MIN_VALUE, Integer.MAX_VALUE}) {
            dueIndex(name + " of block " + block + " of 20", full, () -> call.run(full, block));
        }
        full.discard(0);
        dueIndex(name + " of block 19 of 19", full, () -> call.run(full, 19));
        GaugeBlocks none = new GaugeBlocks();
        dueIndex(name + " of block 0 of none", none, () -> call.run(none, 0));
    }

    /** The exception must be of this very class, thrown by the class itself, and nothing may have changed. */
    private static void dueThrow(String name, GaugeBlocks blocks, Class<?> type, Call call) {
        made++;
        String before = picture(blocks);
        try {
            fail(name + " answered " + call.run() + ", due is " + type.getSimpleName());
            return;
        } catch (RuntimeException thrown) {
            if (thrown.getClass() != type) {
                fail(name + " threw " + thrown + ", due is " + type.getSimpleName());
            }
            if (!isThrownByTheClass(thrown)) {
                fail(name + ": the machine threw " + thrown);
            }
        }
        if (!picture(blocks).equals(before)) {
            fail(name + " threw, but changed something");
        }
    }

    /** The call saves one state, and undo then brings everything back but the buffer. */
    static void dueUndo(String name, GaugeBlocks blocks, Call call) {
        String before = stateOf(blocks);
        int saved = blocks.count(8);
        call.run();
        due(name + " saves", blocks.count(8), Math.min(saved + 1, 6));
        due(name + ", undo", blocks.undo(), Math.min(saved, 5));
        dueTrue(name + " is undone", stateOf(blocks).equals(before));
    }

    static boolean isThrownByTheClass(Throwable thrown) {
        StackTraceElement[] trace = thrown.getStackTrace();
        return trace.length > 0 && trace[0].getClassName().startsWith("GaugeBlocks");
    }

    static void fail(String what) {
        wrong++;
        System.out.println(what);
    }

    static int wrong() {
        return wrong;
    }

    static void end(String test) {
        System.out.println(test + ": " + made + " checks, " + wrong + " of them wrong");
        if (wrong != 0) {
            System.exit(1);
        }
    }

    static void type(GaugeBlocks blocks, String text) {
        for (int i = 0; i < text.length(); i++) {
            blocks.append(text.charAt(i));
        }
    }

    /** Everything that can be asked without a length, as one text. */
    static String picture(GaugeBlocks blocks) {
        return stateOf(blocks) + "; " + blocks.count(8) + " saved; " + blocks.count(9) + " signs, the error at "
            + blocks.firstError();
    }

    /** The part of the picture that undo and snapshots bring back. */
    static String stateOf(GaugeBlocks blocks) {
        StringBuilder out = new StringBuilder();
        for (int what = 0; what <= 7; what++) {
            out.append(blocks.count(what)).append(' ');
        }
        for (int setting = 0; setting <= 3; setting++) {
            out.append(blocks.setting(setting)).append(' ');
        }
        for (int block = 0; block < blocks.count(0); block++) {
            out.append('|');
            for (int what = 0; what <= 8; what++) {
                out.append(blocks.blockOf(block, what)).append(' ');
            }
        }
        for (int stack = 0; stack <= 2; stack++) {
            out.append('/');
            for (int what = 0; what <= 6; what++) {
                out.append(blocks.stackOf(stack, what)).append(' ');
            }
        }
        return out.append(blocks.meanError()).toString();
    }

    /** A case with blocks of these nominal lengths, without deviations. */
    static GaugeBlocks with(int... nominals) {
        GaugeBlocks blocks = new GaugeBlocks();
        for (int nominal : nominals) {
            blocks.block(nominal, 0);
        }
        return blocks;
    }

    static GaugeBlocks full() {
        GaugeBlocks blocks = new GaugeBlocks();
        for (int i = 0; i < 20; i++) {
            blocks.block(1000 + i, 0);
        }
        return blocks;
    }

    /** Seven blocks, the first six of them in this stack in their order. */
    static GaugeBlocks withSixIn(int stack) {
        GaugeBlocks blocks = with(1000, 2000, 3000, 4000, 5000, 6000, 7000);
        for (int block = 0; block < 6; block++) {
            blocks.wring(stack, block);
        }
        return blocks;
    }

    /** Holds the block until it has this warmth, which must be a multiple of 5 above the one that it has. */
    static void warmTo(GaugeBlocks blocks, int block, int warmth) {
        while (blocks.blockOf(block, 3) < warmth) {
            blocks.hold(block, Math.min(60, (warmth - blocks.blockOf(block, 3)) / 5));
        }
    }

    /** One free, cold block with a deviation from -500 to 500 and a wear up to 1000; the settings are as at first. */
    static GaugeBlocks worn(int deviation, int wear) {
        GaugeBlocks blocks = new GaugeBlocks();
        blocks.block(1000, deviation);
        blocks.block(1000, 500);
        blocks.set(3, 0);
        blocks.wring(0, 0);
        for (int left = wear; left > 0; left -= 20) {
            blocks.set(2, Math.min(20, left));
            if (blocks.stackOf(0, 0) == 1) {
                blocks.wring(0, 1);
            } else {
                blocks.takeOff(0);
            }
        }
        blocks.set(2, 0);
        while (blocks.stackOf(0, 0) > 0) {
            blocks.takeOff(0);
        }
        blocks.discard(1);
        blocks.set(2, 3);
        blocks.set(3, 40);
        return blocks;
    }
}
