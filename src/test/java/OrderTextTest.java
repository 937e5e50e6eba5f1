/** Promises 11 to 14: the buffer, its first error, and executing the orders in it. */
final class OrderTextTest {
    private static final int LOW = Integer.MIN_VALUE;
    private static final int HIGH = Integer.MAX_VALUE;

    private OrderTextTest() {
    }

    public static void main(String[] args) {
        appending();
        clearing();
        completeTexts();
        incompleteTexts();
        textsWithErrors();
        eachSignAtEachPlace();
        longTexts();
        executingEachOrder();
        executingUpToARefusal();
        executingUpToAnException();
        executingIsOneCall();
        executingAFullCase();
        Checks.end("OrderTextTest");
    }

    private static void appending() {
        GaugeBlocks g = new GaugeBlocks();
        for (int code : new int[] {32, 127, 0, -1, 128, 256 + 98, LOW, HIGH}) {
            Checks.dueIllegal("append(" + code + ")", g, () -> g.append(code));
        }
        Checks.due("the lowest code", g.append(33), 1);
        Checks.due("the highest code", g.append(126), 2);
        for (int length = 3; length <= 60; length++) {
            Checks.due("append", g.append(98), length);
        }
        Checks.due("length", g.count(9), 60);
        Checks.dueState("append to the full buffer", g, () -> g.append(98));
        Checks.dueIllegal("a wrong code to the full buffer", g, () -> g.append(32));
        Checks.dueIllegal("a wrong code to the full buffer", g, () -> g.append(127));
        Checks.due("nothing is saved", g.count(8), 0);
    }

    private static void clearing() {
        GaugeBlocks g = new GaugeBlocks();
        Checks.due("clear the empty buffer", g.clearBuffer(), 0);
        Checks.type(g, "b500");
        Checks.due("clear", g.clearBuffer(), 4);
        Checks.due("length", g.count(9), 0);
        Checks.due("nothing is saved", g.count(8), 0);
        Checks.due("append again", g.append('x'), 1);
        Checks.due("the new first character counts", g.firstError(), 0);
        Checks.due("clear again", g.clearBuffer(), 1);
    }

    private static GaugeBlocks typed(String text) {
        GaugeBlocks g = new GaugeBlocks();
        Checks.type(g, text);
        return g;
    }

    private static void completeTexts() {
        String[] texts = {
            "b500", "b501", "b999", "b1000", "b4999", "b10000", "b99999", "b100000", "w0+0", "w1+9", "w2+10", "w2+19",
            "u0", "u1", "u2", "h0,1", "h9,9", "h19,10", "h10,59", "h1,60", "h0,6", "r1", "r6", "r9", "r10", "r59",
            "r60", "b500;u0", "w2+1;w2+1", "h19,60;r1;b100000;w0+19;u2",
        };
        for (String text : texts) {
            GaugeBlocks g = typed(text);
            Checks.due("firstError of " + text, g.firstError(), text.length());
            try {
                g.execute();
                Checks.due("length after " + text, g.count(9), 0);
            } catch (IllegalArgumentException thrown) {
                Checks.fail(text + " was not executed");
            }
        }
    }

    private static void incompleteTexts() {
        String[] texts = {
            "", "b", "b1", "b4", "b5", "b9", "b10", "b49", "b50", "b99", "b499", "b100", "w", "w0", "w2", "w0+", "u",
            "h", "h0", "h19", "h0,", "r", "b500;", "b500;b", "u0;", "u0;w", "r1;r", "w1+1;",
        };
        for (String text : texts) {
            GaugeBlocks g = typed(text);
            Checks.due("firstError of " + text, g.firstError(), text.length());
            Checks.dueIllegal("execute of " + text, g, () -> g.execute());
        }
    }

    private static void textsWithErrors() {
        String[] texts = {
            "b0", "b01", "b100;", "b499;", "b49;", "b1;", "b;", "b500;;", "b500,", "b100001", "b1000000", "b100010",
            "b999999", "b200000", "b101000", "b5000000", "bb", "b-", "b+", "b500b", "w3", "w00", "w0-", "w0,0", "w0++",
            "w0+20", "w0+00", "w0+190", "w0+01", "w0+99", "w0+2;0", "w10", "w0+1+", "u3", "u00", "u0+",
            "u;", "h20", "h00", "h01", "h;", "h0;", "h0+", "h0,0", "h0,61", "h0,70", "h0,01", "h0,600", "h0,6;;",
            "h,", "r0", "r01", "r61", "r70", "r100", "r1,", "r6;x", ";", "x", "B500", "500", "u0;;", "u0;u3", "u0u0",
        };
        int[] errors = {
            1, 1, 4, 4, 3, 2, 1, 5, 4, 6, 7, 6,
            6, 6, 6, 6, 1, 1, 1, 4, 1, 2, 2, 2, 3,
            4, 4, 5, 4, 4, 5, 2, 4, 1, 2, 2,
            1, 2, 2, 2, 1, 2, 2, 3, 4, 4, 3, 5, 5,
            1, 1, 1, 2, 2, 3, 2, 3, 0, 0, 0, 0, 3, 4, 2,
        };
        Checks.due("as many errors as texts", errors.length, texts.length);
        for (int i = 0; i < texts.length; i++) {
            String text = texts[i];
            GaugeBlocks g = typed(text);
            Checks.due("firstError of " + text, g.firstError(), errors[i]);
            Checks.dueIllegal("execute of " + text, g, () -> g.execute());
            Checks.due("buffer after " + text, g.clearBuffer(), text.length());
            Checks.type(g, text + "x");
            Checks.due("firstError of " + text + "x", g.firstError(), errors[i]);
        }
    }

    /** After each beginning, just these characters can follow. */
    private static void eachSignAtEachPlace() {
        String[] beginnings = {
            "", "b", "b1", "b10", "b100", "b1000", "b10000", "b10001", "b100000", "b4", "b49", "b499", "b5", "b50",
            "b500", "b5000", "b50000", "w", "w2", "w2+", "w2+0", "w2+1", "w2+2", "w2+10", "u", "u1", "h", "h0", "h1",
            "h2", "h19", "h5,", "h5,1", "h5,5", "h5,6", "h5,7", "h5,60", "r", "r5", "r6", "r7", "r59", "r1;",
        };
        String[] followers = {
            "bwuhr", "123456789", "0123456789", "0123456789", "0123456789", "0123456789;", "0;", ";", ";",
            "0123456789", "0123456789", "0123456789", "0123456789", "0123456789",
            "0123456789;", "0123456789;", ";", "012", "+", "0123456789", ";", "0123456789;", ";", ";", "012", ";",
            "0123456789", ",", "0123456789,",
            ",", ",", "123456789", "0123456789;", "0123456789;", "0;", ";", ";", "123456789", "0123456789;", "0;", ";",
            ";", "bwuhr",
        };
        Checks.due("as many followers as beginnings", followers.length, beginnings.length);
        for (int i = 0; i < beginnings.length; i++) {
            String text = beginnings[i];
            for (int code = 33; code <= 126; code++) {
                GaugeBlocks g = typed(text + (char) code);
                int error = followers[i].indexOf(code) >= 0 ? text.length() + 1 : text.length();
                Checks.due("firstError of " + text + (char) code, g.firstError(), error);
            }
        }
    }

    private static void longTexts() {
        String twenty = "u0;".repeat(20);
        GaugeBlocks g = typed(twenty);
        Checks.due("60 characters without an error", g.firstError(), 60);
        Checks.dueIllegal("but incomplete", g, () -> g.execute());
        GaugeBlocks full = typed("r1;".repeat(18) + "r1;r10");
        Checks.due("60 characters", full.count(9), 60);
        Checks.due("no error", full.firstError(), 60);
        Checks.due("20 orders", full.execute(), 20);
        Checks.due("minutes", full.count(2), 29);
        GaugeBlocks last = typed("r1;".repeat(19) + "r1x");
        Checks.due("the last character is wrong", last.firstError(), 59);
    }

    private static void executingEachOrder() {
        GaugeBlocks g = new GaugeBlocks();
        Checks.type(g, "b500;b100000;h1,50;r2;w2+0;w2+1;u2;w1+1");
        Checks.due("eight orders", g.execute(), 8);
        Checks.due("blocks", g.count(0), 2);
        Checks.due("the first's length", g.blockOf(0, 0), 500);
        Checks.due("the second's length", g.blockOf(1, 0), 100000);
        Checks.due("no deviation, but wear", g.blockOf(1, 1), 10000 - 6);
        Checks.due("minutes", g.count(2), 2);
        Checks.due("warmth of the first", g.blockOf(0, 3), 40);
        Checks.due("warmth of the second", g.blockOf(1, 3), 202 + 120);
        Checks.due("stack 1", g.stackOf(1, 3), 2);
        Checks.due("stack 2", g.stackOf(2, 3), 1);
        Checks.due("wrung", g.count(3), 3);
        Checks.due("taken off", g.count(4), 1);
        Checks.due("saved states", g.count(8), 1);
        Checks.due("buffer", g.count(9), 0);
    }

    private static void executingUpToARefusal() {
        GaugeBlocks g = Checks.with(1000);
        Checks.type(g, "r1;w0+0;w1+0;r5");
        Checks.due("two of four", g.execute(), 2);
        Checks.due("a refusal", g.count(6), 1);
        Checks.due("the last one not executed", g.count(2), 1);
        Checks.due("the buffer is empty", g.count(9), 0);
        Checks.type(g, "w0+0");
        Checks.due("only a refusal", g.execute(), 0);
        Checks.due("refusals", g.count(6), 2);
        Checks.due("undo", g.undo(), 2);
        Checks.due("refusals", g.count(6), 1);
    }

    private static void executingUpToAnException() {
        String[] texts = {"w0+1;r1", "w0+19;r1", "u0;r1", "u2;r1", "h1,1;r1", "h19,60;r1"};
        for (String text : texts) {
            GaugeBlocks g = Checks.with(1000);
            Checks.type(g, text);
            Checks.due("execute " + text, g.execute(), 0);
            Checks.due("no refusal by " + text, g.count(6), 0);
            Checks.due("no minute by " + text, g.count(2), 0);
            Checks.due("no warmth by " + text, g.blockOf(0, 3), 0);
            Checks.due("saved by " + text, g.count(8), 2);
            Checks.due("buffer after " + text, g.count(9), 0);
        }
        GaugeBlocks g = Checks.with(1000);
        Checks.type(g, "w0+0;u0;u0;r1");
        Checks.due("the second taking off fails", g.execute(), 2);
        Checks.due("taken off", g.count(4), 1);
        Checks.due("minutes", g.count(2), 0);
    }

    private static void executingIsOneCall() {
        GaugeBlocks g = Checks.with(1000);
        Checks.type(g, "b2000;r1;h0,2;w0+1");
        Checks.due("four orders", g.execute(), 4);
        Checks.due("saved states", g.count(8), 2);
        Checks.type(g, "r1");
        Checks.due("undo", g.undo(), 1);
        Checks.due("blocks", g.count(0), 1);
        Checks.due("minutes", g.count(2), 0);
        Checks.due("warmth", g.blockOf(0, 3), 0);
        Checks.due("stack", g.stackOf(0, 0), 0);
        Checks.due("the buffer is no part of the state", g.clearBuffer(), 2);
    }

    private static void executingAFullCase() {
        GaugeBlocks g = Checks.full();
        g.discard(19);
        Checks.type(g, "b777;b888;r1");
        Checks.due("one of three", g.execute(), 1);
        Checks.due("blocks", g.count(0), 20);
        Checks.due("the last one", g.blockOf(19, 0), 777);
        Checks.due("minutes", g.count(2), 0);
        Checks.type(g, "h19,60;w2+19;u2");
        Checks.due("the block 19", g.execute(), 3);
        Checks.due("its warmth", g.blockOf(19, 3), 380);
    }
}
