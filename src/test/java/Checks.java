/** What the tests have in common: comparing answers, awaiting exceptions, typing texts. */
final class Checks {
    private static int made = 0;
    private static int wrong = 0;

    interface Call {
        int run();
    }

    private Checks() {
    }

    static void due(String call, long got, long want) {
        made++;
        if (got != want) {
            fail(call + " answered " + got + ", due is " + want);
        }
    }

    static void dueDouble(String call, double got, double want) {
        made++;
        if (Double.compare(got, want) != 0) {
            fail(call + " answered " + got + ", due is " + want);
        }
    }

    static void dueTrue(String what, boolean holds) {
        made++;
        if (!holds) {
            fail(what);
        }
    }

    static void dueIllegal(String name, GaugeBlocks blocks, Call call) {
        dueThrow(name, blocks, IllegalArgumentException.class, call);
    }

    static void dueState(String name, GaugeBlocks blocks, Call call) {
        dueThrow(name, blocks, IllegalStateException.class, call);
    }

    static void dueIndex(String name, GaugeBlocks blocks, Call call) {
        dueThrow(name, blocks, IndexOutOfBoundsException.class, call);
    }

    /** The exception must be of this very class, thrown by the class itself, and nothing may have changed. */
    private static void dueThrow(String name, GaugeBlocks blocks, Class<?> type, Call call) {
        made++;
        String before = picture(blocks);
        try {
            fail(name + " answered " + call.run() + ", due is " + type.getSimpleName());
            return;
        } catch (RuntimeException thrown) {
            if (thrown.getClass() != type) {
                fail(name + " threw " + thrown + ", due is " + type.getSimpleName());
            }
            if (!isThrownByTheClass(thrown)) {
                fail(name + ": the machine threw " + thrown);
            }
        }
        if (!picture(blocks).equals(before)) {
            fail(name + " threw, but changed something");
        }
    }

    static boolean isThrownByTheClass(Throwable thrown) {
        StackTraceElement[] trace = thrown.getStackTrace();
        return trace.length > 0 && trace[0].getClassName().startsWith("GaugeBlocks");
    }

    static void fail(String what) {
        wrong++;
        System.out.println(what);
    }

    static int wrong() {
        return wrong;
    }

    static void end(String test) {
        System.out.println(test + ": " + made + " checks, " + wrong + " of them wrong");
        if (wrong != 0) {
            System.exit(1);
        }
    }

    static void type(GaugeBlocks blocks, String text) {
        for (int i = 0; i < text.length(); i++) {
            blocks.append(text.charAt(i));
        }
    }

    /** Everything that can be asked without a length, as one text. */
    static String picture(GaugeBlocks blocks) {
        StringBuilder out = new StringBuilder();
        for (int what = 0; what <= 9; what++) {
            out.append(blocks.count(what)).append(' ');
        }
        for (int setting = 0; setting <= 3; setting++) {
            out.append(blocks.setting(setting)).append(' ');
        }
        for (int block = 0; block < blocks.count(0); block++) {
            out.append('|');
            for (int what = 0; what <= 8; what++) {
                out.append(blocks.blockOf(block, what)).append(' ');
            }
        }
        for (int stack = 0; stack <= 2; stack++) {
            out.append('/');
            for (int what = 0; what <= 6; what++) {
                out.append(blocks.stackOf(stack, what)).append(' ');
            }
        }
        return out.append(blocks.firstError()).append(' ').append(blocks.meanError()).toString();
    }

    /** A case with blocks of these nominal lengths, without deviations. */
    static GaugeBlocks with(int... nominals) {
        GaugeBlocks blocks = new GaugeBlocks();
        for (int nominal : nominals) {
            blocks.block(nominal, 0);
        }
        return blocks;
    }

    static GaugeBlocks full() {
        GaugeBlocks blocks = new GaugeBlocks();
        for (int i = 0; i < 20; i++) {
            blocks.block(1000 + i, 0);
        }
        return blocks;
    }
}
