/** Promises 25 to 27: the fewest blocks, the old way, the nearest length. */
final class FindingTest {
    private static final int LOW = Integer.MIN_VALUE;
    private static final int HIGH = Integer.MAX_VALUE;

    private FindingTest() {
    }

    public static void main(String[] args) {
        fewestBlocks();
        theLeastSet();
        onlyFreeBlocks();
        upToSixBlocks();
        amongTwentyBlocks();
        theOldWay();
        theOldWayTakesTheLongest();
        theOldWayFails();
        theOldWayWithSixBlocks();
        theNearestLength();
        theNearestLengthAtItsEdges();
        wrongArguments();
        Checks.end("FindingTest");
    }

    private static void dueFewest(GaugeBlocks g, int length, int many, int set) {
        Checks.due("fewest(" + length + ", 0)", g.fewest(length, 0), many);
        Checks.due("fewest(" + length + ", 1)", g.fewest(length, 1), set);
    }

    private static void dueOldWay(GaugeBlocks g, int length, int many, int set, int rest) {
        Checks.due("oldWay(" + length + ", 0)", g.oldWay(length, 0), many);
        Checks.due("oldWay(" + length + ", 1)", g.oldWay(length, 1), set);
        Checks.due("oldWay(" + length + ", 2)", g.oldWay(length, 2), rest);
    }

    private static void fewestBlocks() {
        GaugeBlocks none = new GaugeBlocks();
        dueFewest(none, 500, -1, -1);
        dueFewest(none, 600000, -1, -1);
        GaugeBlocks g = Checks.with(500, 1000, 1500, 2000);
        dueFewest(g, 500, 1, 1);
        dueFewest(g, 1500, 1, 4);
        dueFewest(g, 3000, 2, 10);
        dueFewest(g, 4500, 3, 14);
        dueFewest(g, 5000, 4, 15);
        dueFewest(g, 5001, -1, -1);
        dueFewest(g, 501, -1, -1);
        dueFewest(g, 600000, -1, -1);
    }

    private static void theLeastSet() {
        GaugeBlocks same = Checks.with(1000, 1000, 1000, 1000);
        dueFewest(same, 1000, 1, 1);
        dueFewest(same, 2000, 2, 3);
        dueFewest(same, 3000, 3, 7);
        GaugeBlocks g = Checks.with(1000, 2000, 3000, 4000, 5000);
        dueFewest(g, 6000, 2, 2 + 8);
        dueFewest(g, 7000, 2, 4 + 8);
        dueFewest(g, 9000, 2, 8 + 16);
        dueFewest(g, 10000, 3, 2 + 4 + 16);
        GaugeBlocks h = Checks.with(4000, 3000, 1000, 2000, 5000);
        dueFewest(h, 5000, 1, 16);
        h.discard(4);
        dueFewest(h, 5000, 2, 1 + 4);
        dueFewest(h, 6000, 2, 1 + 8);
        dueFewest(h, 8000, 3, 1 + 2 + 4);
    }

    private static void onlyFreeBlocks() {
        GaugeBlocks g = Checks.with(1000, 1000, 500, 500);
        g.wring(2, 0);
        dueFewest(g, 1000, 1, 2);
        g.wring(2, 1);
        dueFewest(g, 1000, 2, 12);
        dueOldWay(g, 1000, -1, -1, 1000);
        g.wring(1, 3);
        dueFewest(g, 1000, -1, -1);
        g.takeOff(1);
        dueFewest(g, 1000, 2, 12);
    }

    private static void upToSixBlocks() {
        GaugeBlocks g = Checks.with(600, 600, 600, 600, 600, 600, 600);
        dueFewest(g, 3600, 6, 63);
        dueFewest(g, 4200, -1, -1);
        GaugeBlocks longest = Checks.with(500, 100000, 100000, 100000, 100000, 100000, 100000);
        dueFewest(longest, 600000, 6, 126);
        dueFewest(longest, 599999, -1, -1);
        dueFewest(longest, 500500, 6, 63);
        dueFewest(longest, 500, 1, 1);
    }

    private static void amongTwentyBlocks() {
        GaugeBlocks g = new GaugeBlocks();
        for (int i = 0; i < 20; i++) {
            g.block(1000 + i * i, 0);
        }
        dueFewest(g, 1361, 1, 1 << 19);
        dueFewest(g, 6000 + 361 + 324 + 289 + 256 + 225 + 196, 6, 0b11111100000000000000);
        dueFewest(g, 2000 + 361 + 324, 2, 3 << 18);
        dueFewest(g, 6055, 5, 1 << 18 | 1 << 16 | 1 << 15 | 1 << 13 | 1 << 9);
        dueFewest(g, 2025, 2, 8 + 16);
    }

    private static void theOldWay() {
        GaugeBlocks g = Checks.with(1005, 1340, 3500, 20000, 1000, 2340);
        dueOldWay(g, 2345, 2, 1 + 2, 0);
        dueOldWay(g, 1005, 1, 1, 0);
        dueOldWay(g, 3345, 2, 1 + 32, 0);
        dueOldWay(g, 20000, 1, 8, 0);
        dueOldWay(g, 21000, 2, 8 + 16, 0);
        dueOldWay(g, 25845, -1, -1, 19000);
        GaugeBlocks none = new GaugeBlocks();
        dueOldWay(none, 500, -1, -1, 500);
        dueOldWay(none, 600000, -1, -1, 600000);
    }

    private static void theOldWayTakesTheLongest() {
        GaugeBlocks g = Checks.with(1005, 1015, 1015, 1205, 3000);
        dueOldWay(g, 1015, 1, 2, 0);
        dueOldWay(g, 1205, 1, 8, 0);
        dueOldWay(g, 4205, 2, 8 + 16, 0);
        dueOldWay(g, 4015, -1, -1, 4015 - 1205);
        GaugeBlocks twins = Checks.with(2000, 1500, 1500, 2000);
        dueOldWay(twins, 1500, 1, 2, 0);
        dueOldWay(twins, 2000, 1, 1, 0);
        twins.wring(0, 1);
        dueOldWay(twins, 1500, 1, 4, 0);
        twins.wring(1, 0);
        dueOldWay(twins, 2000, 1, 8, 0);
        dueOldWay(twins, 3500, 2, 4 + 8, 0);
        GaugeBlocks places = Checks.with(1001, 1010, 1100, 2000);
        dueOldWay(places, 5111, 4, 15, 0);
        dueOldWay(places, 2110, 2, 2 + 4, 0);
        dueOldWay(places, 3100, 2, 4 + 8, 0);
    }

    private static void theOldWayFails() {
        GaugeBlocks g = Checks.with(1003, 2000);
        dueOldWay(g, 1004, -1, -1, 1004);
        dueOldWay(g, 4003, -1, -1, 3000);
        dueOldWay(g, 2006, -1, -1, 2006);
        dueOldWay(g, 3003, 2, 3, 0);
        dueOldWay(g, 503, -1, -1, 503);
        GaugeBlocks longest = Checks.with(100000, 100000, 100000, 100000, 100000, 100000);
        dueOldWay(longest, 100000, 1, 1, 0);
        dueOldWay(longest, 600000, -1, -1, 600000);
        dueOldWay(longest, 200000, -1, -1, 200000);
    }

    /** Each block that is taken clears a digit, so six of them clear each length. */
    private static void theOldWayWithSixBlocks() {
        GaugeBlocks g = Checks.with(10001, 10010, 10100, 11000, 20000, 100000, 500);
        dueOldWay(g, 61111, 5, 31, 0);
        dueOldWay(g, 161111, 6, 63, 0);
        dueOldWay(g, 161611, -1, -1, 141600);
    }

    private static void theNearestLength() {
        GaugeBlocks g = Checks.with(1000, 2000, 5000);
        Checks.due("nearest to 500", g.nearest(500), 1000);
        Checks.due("nearest to 1499", g.nearest(1499), 1000);
        Checks.due("between two, the shorter", g.nearest(1500), 1000);
        Checks.due("nearest to 1501", g.nearest(1501), 2000);
        Checks.due("two make 3000", g.nearest(3000), 3000);
        Checks.due("no block is taken twice", g.nearest(4000), 3000);
        Checks.due("nearest to 4001", g.nearest(4001), 5000);
        Checks.due("between 6000 and 7000", g.nearest(6500), 6000);
        Checks.due("not three", g.nearest(8000), 7000);
        Checks.due("nearest to 600000", g.nearest(600000), 7000);
        g.wring(0, 2);
        Checks.due("only free blocks", g.nearest(5000), 3000);
        g.wring(0, 0);
        Checks.due("one free block", g.nearest(5000), 2000);
        g.wring(0, 1);
        Checks.due("no free block", g.nearest(5000), -1);
    }

    private static void theNearestLengthAtItsEdges() {
        Checks.due("without blocks", new GaugeBlocks().nearest(500), -1);
        Checks.due("however far", Checks.with(100000).nearest(500), 100000);
        Checks.due("however far", Checks.with(500).nearest(600000), 500);
        GaugeBlocks g = Checks.with(100000, 100000, 500);
        Checks.due("the longest", g.nearest(600000), 200000);
        Checks.due("the shortest", g.nearest(500), 500);
        Checks.due("one and one", g.nearest(100400), 100500);
        GaugeBlocks down = Checks.with(5000, 2000, 1000);
        Checks.due("between two, the shorter", down.nearest(1500), 1000);
        Checks.due("between 6000 and 7000", down.nearest(6500), 6000);
    }

    private static void wrongArguments() {
        GaugeBlocks g = Checks.with(1000, 2000);
        for (int length : new int[] {499, 600001, 0, -1, LOW, HIGH}) {
            Checks.dueIllegal("fewest(" + length + ", 0)", g, () -> g.fewest(length, 0));
            Checks.dueIllegal("oldWay(" + length + ", 2)", g, () -> g.oldWay(length, 2));
            Checks.dueIllegal("nearest(" + length + ")", g, () -> g.nearest(length));
        }
        for (int what : new int[] {-1, 2, LOW, HIGH}) {
            Checks.dueIllegal("fewest(1000, " + what + ")", g, () -> g.fewest(1000, what));
            Checks.dueIllegal("fewest(1500, " + what + ")", g, () -> g.fewest(1500, what));
        }
        for (int what : new int[] {-1, 3, LOW, HIGH}) {
            Checks.dueIllegal("oldWay(1000, " + what + ")", g, () -> g.oldWay(1000, what));
            Checks.dueIllegal("oldWay(1500, " + what + ")", g, () -> g.oldWay(1500, what));
        }
    }
}
