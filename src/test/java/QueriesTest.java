/** Promises 20 to 22 and 28 to 30: orders, lengths, counts, cooling, later lengths, the mean error. */
final class QueriesTest {
    private static final int LOW = Integer.MIN_VALUE;
    private static final int HIGH = Integer.MAX_VALUE;

    private QueriesTest() {
    }

    public static void main(String[] args) {
        ranks();
        ranksOutOfRange();
        freeLengths();
        lengthsOfAFullCase();
        counts();
        countsAfterBlocksWent();
        countsOfAFullCase();
        countsOutOfRange();
        cooling();
        coolingOfAWarmBlock();
        laterLengths();
        laterLengthsOutOfRange();
        meanErrors();
        Checks.end("QueriesTest");
    }

    private static void dueOrder(GaugeBlocks g, int how, int... order) {
        for (int rank = 0; rank < order.length; rank++) {
            Checks.due("ranked(" + how + ", " + rank + ")", g.ranked(how, rank), order[rank]);
        }
        Checks.due("ranked(" + how + ") beyond", g.ranked(how, order.length), -1);
        Checks.due("ranked(" + how + ") far beyond", g.ranked(how, HIGH), -1);
    }

    private static void ranks() {
        GaugeBlocks g = new GaugeBlocks();
        for (int how = 0; how <= 2; how++) {
            dueOrder(g, how);
        }
        g.block(3000, 100);
        g.block(1000, -200);
        g.block(2000, 0);
        g.block(1000, 200);
        g.block(100000, -201);
        g.hold(2, 30);
        g.hold(4, 30);
        g.hold(1, 31);
        dueOrder(g, 0, 1, 3, 2, 0, 4);
        dueOrder(g, 1, 1, 2, 4, 0, 3);
        dueOrder(g, 2, 4, 1, 3, 0, 2);
        g.wring(0, 0);
        g.wring(0, 3);
        dueOrder(g, 0, 1, 3, 2, 0, 4);
        dueOrder(g, 1, 1, 2, 4, 0, 3);
        dueOrder(g, 2, 4, 1, 3, 0, 2);
        GaugeBlocks full = Checks.full();
        Checks.due("the last of 20", full.ranked(0, 19), 19);
        Checks.due("equal ones by their numbers", full.ranked(1, 19), 19);
        Checks.due("no 21st", full.ranked(2, 20), -1);
    }

    private static void ranksOutOfRange() {
        GaugeBlocks g = Checks.with(1000, 2000);
        for (int how : new int[] {-1, 3, LOW, HIGH}) {
            Checks.dueIllegal("ranked(" + how + ", 0)", g, () -> g.ranked(how, 0));
        }
        for (int rank : new int[] {-1, -2, LOW}) {
            Checks.dueIllegal("ranked(0, " + rank + ")", g, () -> g.ranked(0, rank));
            Checks.dueIllegal("ranked(2, " + rank + ")", g, () -> g.ranked(2, rank));
        }
    }

    private static void dueLengths(GaugeBlocks g, int... lengths) {
        Checks.due("different lengths", g.lengths(-1), lengths.length);
        for (int rank = 0; rank < lengths.length; rank++) {
            Checks.due("lengths(" + rank + ")", g.lengths(rank), lengths[rank]);
        }
        for (int rank = lengths.length; rank <= 21; rank++) {
            Checks.due("lengths(" + rank + ") beyond", g.lengths(rank), -1);
        }
        Checks.due("lengths far beyond", g.lengths(HIGH), -1);
    }

    private static void freeLengths() {
        GaugeBlocks g = new GaugeBlocks();
        dueLengths(g);
        g.block(3000, 0);
        dueLengths(g, 3000);
        g.block(1000, 5);
        g.block(3000, 7);
        g.block(100000, 0);
        g.block(1000, 0);
        g.block(500, 0);
        dueLengths(g, 500, 1000, 3000, 100000);
        g.wring(0, 0);
        dueLengths(g, 500, 1000, 3000, 100000);
        g.wring(1, 2);
        dueLengths(g, 500, 1000, 100000);
        g.wring(2, 5);
        dueLengths(g, 1000, 100000);
        for (int rank : new int[] {-2, -3, LOW}) {
            Checks.dueIllegal("lengths(" + rank + ")", g, () -> g.lengths(rank));
        }
    }

    private static void lengthsOfAFullCase() {
        GaugeBlocks g = Checks.full();
        int[] lengths = new int[20];
        for (int i = 0; i < 20; i++) {
            lengths[i] = 1000 + i;
        }
        dueLengths(g, lengths);
    }

    private static void dueCounts(GaugeBlocks g, String when, int... counts) {
        for (int what = 0; what <= 9; what++) {
            Checks.due(when + ", count(" + what + ")", g.count(what), counts[what]);
        }
    }

    private static void counts() {
        GaugeBlocks g = Checks.with(1000, 2000, 3000, 4000);
        dueCounts(g, "four blocks", 4, 15, 0, 0, 0, 0, 0, 0, 4, 0);
        g.wring(1, 3);
        g.wring(1, 1);
        g.block(5000, -501);
        g.block(6000, 900);
        g.block(6000, 500);
        dueCounts(g, "two wrung", 7, 1 + 4 + 16 + 32 + 64, 0, 2, 0, 6, 0, 48, 6, 0);
        g.rest(60);
        g.rest(3);
        g.takeOff(1);
        g.wring(0, 4);
        g.wring(0, 3);
        Checks.type(g, "b50");
        dueCounts(g, "later", 7, 1 + 2 + 4 + 16 + 32 + 64, 63, 2, 1, 12, 2, 48, 6, 3);
        g.discard(1);
        dueCounts(g, "one gone", 6, 1 + 2 + 8 + 16 + 32, 63, 2, 1, 6, 2, 24, 6, 3);
        g.clearBuffer();
        g.set(2, 20);
        for (int i = 0; i < 13; i++) {
            g.rest(60);
            g.wring(1, 0);
            g.takeOff(1);
        }
        Checks.due("wear makes blocks bad, wrung or not", g.count(7), 1 + 4 + 8 + 16);
        Checks.due("one of them is wrung", g.blockOf(2, 6), 1);
    }

    /** The numbers of blocks that went must not count any more. */
    private static void countsAfterBlocksWent() {
        GaugeBlocks g = Checks.full();
        g.set(2, 20);
        for (int i = 0; i < 4; i++) {
            g.wring(0, 18);
            g.wring(0, 19);
            g.takeOff(0);
            g.takeOff(0);
            g.rest(60);
        }
        g.hold(19, 60);
        Checks.due("wear", g.count(5), 320);
        Checks.due("greatest warmth", g.rest(1), 270);
        Checks.due("the warm one goes", g.discard(19), 19);
        Checks.due("wear", g.count(5), 160);
        Checks.due("greatest warmth", g.rest(1), 0);
        Checks.dueDouble("meanError", g.meanError(), 160.0 / 19.0);
        Checks.due("nearest", g.nearest(600000), 1018 + 1017);
        Checks.due("the old way", g.oldWay(1019, 1), -1);
        Checks.due("fewest", g.fewest(1019, 1), -1);
        Checks.due("free ones", g.count(1), (1 << 19) - 1);
        Checks.due("grade 3", g.count(7), 0);
        dueOrder(g, 2, 18, 0, 1, 2, 3, 4, 5, 6, 7, 8, 9, 10, 11, 12, 13, 14, 15, 16, 17);
        Checks.due("different lengths", g.lengths(-1), 19);
    }

    private static void countsOfAFullCase() {
        GaugeBlocks g = Checks.full();
        dueCounts(g, "full", 20, (1 << 20) - 1, 0, 0, 0, 0, 0, 0, 6, 0);
        Checks.due("rest", g.rest(1), 0);
        Checks.due("nearest", g.nearest(600000), 1019 + 1018);
        Checks.due("the old way", g.oldWay(1019, 1), 1 << 19);
        Checks.due("the old way fails", g.oldWay(1020, 2), 1020);
        Checks.due("fewest", g.fewest(2037, 1), 3 << 18);
        Checks.due("make", g.make(0, 2037), 2);
        Checks.due("sum of the stack", g.stackOf(0, 1), 2037);
        Checks.due("the stack as a set", g.stackOf(0, 3), 3 << 18);
        Checks.due("wear", g.count(5), 6);
        Checks.dueDouble("meanError", g.meanError(), 6.0 / 20.0);
        g.set(2, 20);
        for (int i = 0; i < 25; i++) {
            g.wring(1, 0);
            g.takeOff(1);
            g.rest(60);
        }
        Checks.due("without a block below there is no wear", g.blockOf(0, 2), 0);
    }

    private static void countsOutOfRange() {
        GaugeBlocks g = Checks.with(1000);
        for (int what : new int[] {-1, 10, LOW, HIGH}) {
            Checks.dueIllegal("count(" + what + ")", g, () -> g.count(what));
        }
    }

    private static void cooling() {
        GaugeBlocks g = Checks.with(1000, 2000);
        Checks.due("a cold one", g.coolIn(0), 0);
        g.hold(0, 60);
        Checks.due("300 is not greater than 300", g.coolIn(0), 0);
        g.hold(0, 1);
        Checks.due("305 becomes 274", g.coolIn(0), 1);
        g.hold(0, 6);
        Checks.due("335 becomes 301 and 270", g.coolIn(0), 2);
        g.hold(1, 1);
        g.set(1, 0);
        Checks.due("5, 4, 3, 2, 1, 0", g.coolIn(1), 5);
        g.set(1, 4);
        Checks.due("5, 4", g.coolIn(1), 1);
        g.set(1, 5);
        Checks.due("5", g.coolIn(1), 0);
        Checks.due("nothing changed", g.blockOf(0, 3), 335);
        Checks.due("no minutes", g.count(2), 0);
        for (int block : new int[] {-1, 2, 20, LOW, HIGH}) {
            Checks.dueIndex("coolIn(" + block + ")", g, () -> g.coolIn(block));
        }
    }

    private static void coolingOfAWarmBlock() {
        GaugeBlocks g = Checks.with(1000);
        for (int i = 0; i < 4; i++) {
            g.hold(0, 60);
        }
        for (int limit : new int[] {0, 1, 9, 10, 11, 300, 899, 900, 901, 999, 1000}) {
            g.set(1, limit);
            int minutes = g.coolIn(0);
            g.keep(0);
            for (int i = 0; i < minutes; i++) {
                Checks.due("still too warm for " + limit, g.refusal(0, 0), 3);
                g.rest(1);
            }
            Checks.due("cool enough for " + limit, g.refusal(0, 0), 0);
            g.goBack(0);
        }
        g.set(1, 899);
        Checks.due("1000 becomes 900 and 810", g.coolIn(0), 2);
        g.wring(1, 0);
        g.set(1, 900);
        Checks.due("1000 becomes 900", g.coolIn(0), 1);
    }

    private static void laterLengths() {
        GaugeBlocks g = Checks.with(100000, 50000, 1000);
        Checks.due("an empty stack now", g.lengthIn(0, 0), 0);
        Checks.due("an empty stack later", g.lengthIn(0, 600), 0);
        g.set(3, 0);
        g.hold(0, 60);
        g.hold(1, 3);
        g.wring(2, 0);
        g.wring(2, 1);
        int cold = 150000000 - 6 + 10;
        Checks.due("now", g.lengthIn(2, 0), cold + 3450 + 86);
        Checks.due("as stackOf", g.lengthIn(2, 0), g.stackOf(2, 2));
        Checks.due("270 and 13", g.lengthIn(2, 1), cold + 3105 + 74);
        Checks.due("243 and 11", g.lengthIn(2, 2), cold + 2794 + 63);
        Checks.due("cold", g.lengthIn(2, 600), cold);
        Checks.due("nothing changed", g.blockOf(0, 3), 300);
        Checks.due("no minutes", g.count(2), 0);
        for (int minutes = 0; minutes <= 60; minutes++) {
            int later = g.lengthIn(2, minutes);
            if (minutes > 0) {
                g.rest(minutes);
            }
            Checks.due("after " + minutes, g.stackOf(2, 2), later);
            if (minutes > 0) {
                g.undo();
            }
        }
    }

    private static void laterLengthsOutOfRange() {
        GaugeBlocks g = Checks.with(1000);
        for (int minutes : new int[] {-1, 601, LOW, HIGH}) {
            Checks.dueIllegal("lengthIn(0, " + minutes + ")", g, () -> g.lengthIn(0, minutes));
            Checks.dueIndex("lengthIn(3, " + minutes + ")", g, () -> g.lengthIn(3, minutes));
        }
        for (int stack : new int[] {-1, 3, LOW, HIGH}) {
            Checks.dueIndex("lengthIn(" + stack + ", 0)", g, () -> g.lengthIn(stack, 0));
        }
    }

    private static void meanErrors() {
        GaugeBlocks g = new GaugeBlocks();
        Checks.dueDouble("without blocks", g.meanError(), 0.0);
        g.block(1000, -900);
        Checks.dueDouble("one", g.meanError(), 900.0);
        g.block(2000, 899);
        Checks.dueDouble("two", g.meanError(), 1799.0 / 2.0);
        g.block(3000, 1);
        Checks.dueDouble("three", g.meanError(), 1800.0 / 3.0);
        g.calibrate(0);
        g.block(3000, 1);
        g.discard(0);
        Checks.dueDouble("901 / 3", g.meanError(), 901.0 / 3.0);
        g.wring(0, 1);
        g.wring(0, 2);
        Checks.dueDouble("wear counts", g.meanError(), (899.0 + 2 + 2) / 3.0);
    }
}
