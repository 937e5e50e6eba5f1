/** The sentences of promises 11 to 14: the buffer, its first error, and executing the orders in it. */
final class OrderTextSentences {
    private static final int LOW = Integer.MIN_VALUE;
    private static final int HIGH = Integer.MAX_VALUE;

    private OrderTextSentences() {
    }

    private static GaugeBlocks typed(String text) {
        GaugeBlocks g = new GaugeBlocks();
        Checks.type(g, text);
        return g;
    }

    // ---- promise 11: append

    @Sentence(of = "11", says = "Appends a character to the buffer")
    static void appendAppends() {
        GaugeBlocks g = new GaugeBlocks();
        Checks.type(g, "b100000");
        Checks.due("no error so far", g.firstError(), 7);
        g.append('0');
        Checks.due("it came last", g.firstError(), 7);
        Checks.due("length", g.count(9), 8);
        GaugeBlocks other = new GaugeBlocks();
        Checks.type(other, "b100001");
        Checks.due("the code counts", other.firstError(), 6);
    }

    @Sentence(of = "11", says = "`code`: a character code, 33 to 126")
    static void appendEachCode() {
        GaugeBlocks g = new GaugeBlocks();
        for (int code = 33; code <= 126; code++) {
            Checks.due("append(" + code + ")", g.append(code), 1);
            Checks.due("only orders' letters are no error", g.firstError(), "bwuhr".indexOf(code) >= 0 ? 1 : 0);
            g.clearBuffer();
        }
    }

    @Sentence(of = "11", says = "Returns the new length of the buffer")
    static void appendReturns() {
        GaugeBlocks g = new GaugeBlocks();
        for (int length = 1; length <= 60; length++) {
            Checks.due("append", g.append(126), length);
        }
        g.clearBuffer();
        Checks.due("after clearing", g.append(33), 1);
        Checks.due("nothing is saved", g.count(8), 0);
    }

    @Sentence(of = "11", says = "Throws `IllegalArgumentException` if code is out of range")
    static void appendOutOfRange() {
        GaugeBlocks empty = new GaugeBlocks();
        GaugeBlocks full = typed("b".repeat(60));
        for (int code : new int[] {32, 127, 0, 10, -1, 128, 256 + 'b', 65536 + 'b', 'b' - 256, LOW, HIGH}) {
            Checks.dueIllegal("append(" + code + ")", empty, () -> empty.append(code));
            Checks.dueIllegal("append(" + code + ") to 60", full, () -> full.append(code));
        }
    }

    @Sentence(of = "11", says = "Throws `IllegalStateException` if the buffer holds 60 characters")
    static void appendToSixty() {
        GaugeBlocks g = typed("r1;".repeat(19) + "r1");
        Checks.due("59 and one", g.append('0'), 60);
        for (int code : new int[] {33, ';', 126}) {
            Checks.dueState("append(" + code + ")", g, () -> g.append(code));
        }
        Checks.due("the text stays", g.execute(), 20);
        Checks.due("after that", g.append('r'), 1);
    }

    // ---- promise 12: clearBuffer

    @Sentence(of = "12", says = "Clears the buffer")
    static void clearBufferClears() {
        GaugeBlocks g = typed("x".repeat(60));
        g.clearBuffer();
        Checks.due("length", g.count(9), 0);
        Checks.due("no error", g.firstError(), 0);
        Checks.type(g, "r1");
        Checks.due("no error", g.firstError(), 2);
        Checks.due("the new text alone", g.execute(), 1);
        Checks.due("saved by execute alone", g.count(8), 1);
    }

    @Sentence(of = "12", says = "Returns the length that it had")
    static void clearBufferReturns() {
        for (int length : new int[] {0, 1, 59, 60}) {
            GaugeBlocks g = typed("x".repeat(length));
            Checks.due("clear", g.clearBuffer(), length);
            Checks.due("clear once more", g.clearBuffer(), 0);
        }
        GaugeBlocks g = typed("r1");
        g.execute();
        Checks.due("execute has cleared it", g.clearBuffer(), 0);
        Checks.type(g, "u");
        Checks.dueIllegal("a text that is not complete", g, () -> g.execute());
        Checks.due("it stays", g.clearBuffer(), 1);
    }

    // ---- promise 13: firstError

    @Sentence(of = "13", says = "Finds the first error of the buffer")
    static void firstErrorFinds() {
        Checks.due("at first", typed("?").firstError(), 0);
        Checks.due("of two", typed("u?w?").firstError(), 1);
        Checks.due("in the second order", typed("b500;h0.").firstError(), 7);
        Checks.due("at last", typed("r1;".repeat(19) + "r61").firstError(), 59);
        GaugeBlocks g = typed("u3");
        Checks.due("asked once", g.firstError(), 1);
        Checks.due("asked again", g.firstError(), 1);
        Checks.due("nothing changes", g.count(9), 2);
        Checks.due("nothing is saved", g.count(8), 0);
    }

    @Sentence(of = "13",
        says = "Returns its index; the length of the buffer if there is no error (also if the text is not complete)")
    static void firstErrorReturns() {
        Checks.due("empty", typed("").firstError(), 0);
        String complete = "b500;w0+1;u2;h19,60;r60";
        for (int length = 0; length <= complete.length(); length++) {
            Checks.due("complete or not", typed(complete.substring(0, length)).firstError(), length);
            Checks.due("an error behind it", typed(complete.substring(0, length) + "!").firstError(), length);
        }
        Checks.due("60 characters, not complete", typed("r1;".repeat(20)).firstError(), 60);
        Checks.due("60 characters, complete", typed("r1;".repeat(19) + "r10").firstError(), 60);
    }

    // ---- promise 14: execute

    @Sentence(of = "14", says = "Executes the orders in the buffer, one after the other, up to the first one that is "
        + "refused or whose method would throw an exception, and clears the buffer")
    static void executeExecutes() {
        GaugeBlocks all = typed("b1000;b2000;h1,2;w1+1;w1+0;u1;r3");
        all.execute();
        Checks.due("blocks", all.count(0), 2);
        Checks.due("the stack", all.stackOf(1, 3), 2);
        Checks.due("warmth of the first: 80, 72, 64, 57", all.blockOf(0, 3), 57);
        Checks.due("warmth of the second: 50, 45, 40, 36", all.blockOf(1, 3), 36);
        Checks.due("minutes", all.count(2), 3);
        Checks.due("the buffer", all.count(9), 0);
        String[] stops = {"w0+0", "w1+0", "w0+1", "w0+2", "w0+7", "w2+19", "u1", "u2", "h7,1", "h19,60"};
        int[] refusals = {1, 1, 1, 1, 0, 0, 0, 0, 0, 0};
        for (int i = 0; i < stops.length; i++) {
            GaugeBlocks g = caseThatStops();
            Checks.type(g, "r1;" + stops[i] + ";r5");
            g.execute();
            Checks.due("up to " + stops[i], g.count(2), 1);
            Checks.due("refusals by " + stops[i], g.count(6), refusals[i]);
            Checks.due("the buffer after " + stops[i], g.count(9), 0);
            Checks.due("the stack after " + stops[i], g.stackOf(0, 3), 1);
        }
        GaugeBlocks full = Checks.full();
        Checks.type(full, "r1;b500;r5");
        full.execute();
        Checks.due("up to a 21st block", full.count(2), 1);
        Checks.due("no more blocks", full.count(0), 20);
        GaugeBlocks six = Checks.withSixIn(2);
        Checks.type(six, "r1;w2+6;r5");
        six.execute();
        Checks.due("up to a seventh in a stack", six.count(2), 1);
        Checks.due("a refusal", six.count(6), 1);
    }

    /** Seven blocks: 0 is in the stack 0, 1 is too warm, 2 is bad. */
    private static GaugeBlocks caseThatStops() {
        GaugeBlocks g = new GaugeBlocks();
        for (int block = 0; block < 7; block++) {
            g.block(1000, block == 2 ? 600 : 0);
        }
        g.wring(0, 0);
        Checks.warmTo(g, 1, 1000);
        return g;
    }

    @Sentence(of = "14", says = "Undoable, as one call")
    static void executeIsUndoable() {
        GaugeBlocks g = Checks.with(1000, 2000);
        Checks.type(g, "b3000;w0+2;w0+1;w1+0;u0;h2,60;r60");
        Checks.dueUndo("seven orders", g, () -> g.execute());
        Checks.due("the buffer doesn't come back", g.count(9), 0);
        Checks.type(g, "r1;u0");
        Checks.dueUndo("up to an order that would throw", g, () -> g.execute());
        Checks.type(g, "w0+0;w1+0");
        Checks.dueUndo("up to a refusal", g, () -> g.execute());
        Checks.type(g, "u0");
        Checks.dueUndo("no order is executed", g, () -> g.execute());
        for (int i = 0; i < 6; i++) {
            g.rest(1);
        }
        Checks.type(g, "r1;r1;r1");
        Checks.dueUndo("with six saved states", g, () -> g.execute());
    }

    @Sentence(of = "14",
        says = "Returns how many orders are executed (one that is refused is not counted here, but in count() of 6)")
    static void executeReturns() {
        Checks.due("one", typed("b500").execute(), 1);
        Checks.due("twenty", typed("r1;".repeat(19) + "r60").execute(), 20);
        Checks.due("none", typed("u0").execute(), 0);
        GaugeBlocks g = Checks.with(1000);
        Checks.type(g, "w0+0;w0+0;r1");
        Checks.due("one before the refused one", g.execute(), 1);
        Checks.due("a refusal", g.count(6), 1);
        Checks.type(g, "w1+0");
        Checks.due("a refused one alone", g.execute(), 0);
        Checks.due("one more refusal", g.count(6), 2);
        Checks.type(g, "u0;u0;u0");
        Checks.due("one before the one that would throw", g.execute(), 1);
        Checks.due("no refusal", g.count(6), 2);
        GaugeBlocks full = Checks.full();
        full.discard(0);
        Checks.type(full, "b500;b500");
        Checks.due("one before the 21st block", full.execute(), 1);
    }

    @Sentence(of = "14", says = "Throws `IllegalArgumentException` if the buffer is not a complete order text")
    static void executeIncomplete() {
        String[] texts = {
            "", ";", "b", "b4", "b499", "w", "w0", "w0+", "u", "h", "h0", "h0,", "r", "r1;", "r1;;r1", ";r1", "r1;u",
            "b100001", "r61", "h0,61", "w0+20", "u3", "r1x", "r01",
        };
        for (String text : texts) {
            GaugeBlocks g = typed(text);
            Checks.dueIllegal("execute of '" + text + "'", g, () -> g.execute());
            Checks.due("the buffer stays", g.clearBuffer(), text.length());
        }
        GaugeBlocks g = typed("b500;u");
        Checks.dueIllegal("not even the orders before it", g, () -> g.execute());
        g.append('0');
        Checks.due("when it is complete", g.execute(), 1);
        Checks.dueIllegal("cleared", g, () -> g.execute());
    }
}
