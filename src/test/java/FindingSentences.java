/** The sentences of promises 25 to 27: the fewest blocks, the old way, the nearest length. */
final class FindingSentences {
    private static final int LOW = Integer.MIN_VALUE;
    private static final int HIGH = Integer.MAX_VALUE;

    private FindingSentences() {
    }

    // ---- promise 25: fewest

    private static void dueFewest(GaugeBlocks g, int length, int many, int set) {
        Checks.due("fewest(" + length + ", 0)", g.fewest(length, 0), many);
        Checks.due("fewest(" + length + ", 1)", g.fewest(length, 1), set);
    }

    @Sentence(of = "25", says = "Finds the fewest blocks for a length")
    static void fewestFinds() {
        GaugeBlocks g = Checks.with(3000, 1000, 1000, 2000, 4000, 500);
        dueFewest(g, 4000, 1, 16);
        dueFewest(g, 2000, 1, 8);
        dueFewest(g, 5000, 2, 1 + 8);
        dueFewest(g, 7500, 3, 1 + 16 + 32);
        dueFewest(g, 11500, 6, 63);
        dueFewest(g, 11000, 5, 31);
        g.wring(0, 0);
        dueFewest(g, 5000, 2, 2 + 16);
        g.wring(0, 4);
        dueFewest(g, 5000, -1, -1);
        g.takeOff(0);
        dueFewest(g, 5000, 2, 2 + 16);
    }

    @Sentence(of = "25", says = "`length`: 500 to 600000")
    static void fewestEachLength() {
        GaugeBlocks g = Checks.with(500, 100000, 100000, 100000, 100000, 100000, 100000, 501, 99999);
        dueFewest(g, 500, 1, 1);
        dueFewest(g, 501, 1, 128);
        dueFewest(g, 600000, 6, 126);
        dueFewest(g, 599999, 6, 62 + 256);
        dueFewest(new GaugeBlocks(), 500, -1, -1);
        dueFewest(new GaugeBlocks(), 600000, -1, -1);
    }

    @Sentence(of = "25", says = "`what`: 0 how many there are, 1 the blocks as a set")
    static void fewestEachWhat() {
        GaugeBlocks g = Checks.full();
        Checks.due("how many", g.fewest(1019, 0), 1);
        Checks.due("the set", g.fewest(1019, 1), 1 << 19);
        Checks.due("how many", g.fewest(6015, 0), 6);
        Checks.due("the set", g.fewest(6015, 1), 63);
        Checks.due("of several sets the least", g.fewest(6016, 1), 0b1011111);
        Checks.due("of several sets the least", g.fewest(2017, 1), 0b1100000000);
    }

    @Sentence(of = "25", says = "Returns the number; NONE if there are no such blocks")
    static void fewestReturns() {
        dueFewest(new GaugeBlocks(), 1000, -1, -1);
        GaugeBlocks g = Checks.with(1000, 1000, 1000, 1000, 1000, 1000, 1000);
        dueFewest(g, 6000, 6, 63);
        dueFewest(g, 7000, -1, -1);
        dueFewest(g, 999, -1, -1);
        dueFewest(g, 1001, -1, -1);
        dueFewest(g, 500, -1, -1);
        for (int block = 0; block < 6; block++) {
            g.wring(0, block);
        }
        dueFewest(g, 1000, 1, 64);
        dueFewest(g, 2000, -1, -1);
        g.wring(1, 6);
        dueFewest(g, 1000, -1, -1);
    }

    @Sentence(of = "25", says = "Throws `IllegalArgumentException` if an argument is out of range")
    static void fewestOutOfRange() {
        GaugeBlocks g = Checks.with(1000);
        for (int length : new int[] {499, 600001, 0, -1000, LOW, HIGH}) {
            Checks.dueIllegal("fewest(" + length + ", 0)", g, () -> g.fewest(length, 0));
            Checks.dueIllegal("fewest(" + length + ", 2)", g, () -> g.fewest(length, 2));
        }
        for (int what : new int[] {-1, 2, LOW, HIGH}) {
            Checks.dueIllegal("fewest(1000, " + what + ")", g, () -> g.fewest(1000, what));
            Checks.dueIllegal("fewest(1001, " + what + ")", g, () -> g.fewest(1001, what));
        }
    }

    // ---- promise 26: oldWay

    private static void dueOldWay(GaugeBlocks g, int length, int many, int set, int rest) {
        Checks.due("oldWay(" + length + ", 0)", g.oldWay(length, 0), many);
        Checks.due("oldWay(" + length + ", 1)", g.oldWay(length, 1), set);
        Checks.due("oldWay(" + length + ", 2)", g.oldWay(length, 2), rest);
    }

    @Sentence(of = "26", says = "Finds blocks for a length by the old way")
    static void oldWayFinds() {
        GaugeBlocks g = Checks.with(1005, 1340, 3500, 20000, 1000, 2340);
        dueOldWay(g, 2345, 2, 1 + 2, 0);
        dueOldWay(g, 25845, -1, -1, 19000);
        g.wring(0, 5);
        dueOldWay(g, 25845, 4, 1 + 2 + 4 + 8, 0);
        g.wring(0, 0);
        dueOldWay(g, 25845, -1, -1, 25845);
        g.takeOff(0);
        dueOldWay(g, 25845, 4, 1 + 2 + 4 + 8, 0);
    }

    @Sentence(of = "26", says = "`length`: 500 to 600000")
    static void oldWayEachLength() {
        GaugeBlocks g = Checks.with(500, 501, 100000);
        dueOldWay(g, 500, 1, 1, 0);
        dueOldWay(g, 501, 1, 2, 0);
        dueOldWay(g, 600000, -1, -1, 600000);
        dueOldWay(g, 599999, -1, -1, 599999);
        GaugeBlocks none = new GaugeBlocks();
        dueOldWay(none, 500, -1, -1, 500);
        dueOldWay(none, 600000, -1, -1, 600000);
    }

    @Sentence(of = "26", says = "`what`: 0 how many there are, 1 the blocks as a set, 2 the rest when it ended (0 if "
        + "it does not fail)")
    static void oldWayEachWhat() {
        GaugeBlocks g = Checks.with(100000, 20000, 11000, 10100, 10010, 10001, 500);
        Checks.due("how many", g.oldWay(161111, 0), 6);
        Checks.due("the set", g.oldWay(161111, 1), 63);
        Checks.due("no rest", g.oldWay(161111, 2), 0);
        Checks.due("the rest after five", g.oldWay(361111, 2), 300000);
        Checks.due("the rest after one", g.oldWay(100301, 2), 90300);
        Checks.due("the rest after none", g.oldWay(100302, 2), 100302);
        GaugeBlocks last = Checks.full();
        Checks.due("the last number", last.oldWay(1019, 1), 1 << 19);
    }

    @Sentence(of = "26", says = "Returns the number; NONE for 0 and 1 if the old way fails")
    static void oldWayReturns() {
        dueOldWay(new GaugeBlocks(), 1000, -1, -1, 1000);
        GaugeBlocks g = Checks.with(1001, 1000);
        dueOldWay(g, 2001, 2, 3, 0);
        dueOldWay(g, 3001, -1, -1, 2000);
        dueOldWay(g, 2002, -1, -1, 2002);
        dueOldWay(g, 501, -1, -1, 501);
        GaugeBlocks twins = Checks.with(500, 1000, 1000, 500);
        dueOldWay(twins, 1000, 1, 2, 0);
        dueOldWay(twins, 1500, 2, 3, 0);
        dueOldWay(twins, 2000, -1, -1, 2000);
        twins.wring(2, 0);
        dueOldWay(twins, 1500, 2, 2 + 8, 0);
    }

    @Sentence(of = "26", says = "Throws `IllegalArgumentException` if an argument is out of range")
    static void oldWayOutOfRange() {
        GaugeBlocks g = Checks.with(1000);
        for (int length : new int[] {499, 600001, 0, -1000, LOW, HIGH}) {
            Checks.dueIllegal("oldWay(" + length + ", 0)", g, () -> g.oldWay(length, 0));
            Checks.dueIllegal("oldWay(" + length + ", 3)", g, () -> g.oldWay(length, 3));
        }
        for (int what : new int[] {-1, 3, LOW, HIGH}) {
            Checks.dueIllegal("oldWay(1000, " + what + ")", g, () -> g.oldWay(1000, what));
            Checks.dueIllegal("oldWay(1001, " + what + ")", g, () -> g.oldWay(1001, what));
        }
    }

    // ---- promise 27: nearest

    private static void dueNearest(GaugeBlocks g, int length, int nearest) {
        Checks.due("nearest(" + length + ")", g.nearest(length), nearest);
    }

    @Sentence(of = "27", says = "Finds the length that is nearest to a length and that 1 or 2 free blocks make; of "
        + "two that are as near the shorter one")
    static void nearestFinds() {
        for (int[] lengths : new int[][] {{1000, 2000, 5000}, {5000, 2000, 1000}, {2000, 5000, 1000}}) {
            GaugeBlocks g = Checks.with(lengths);
            dueNearest(g, 1000, 1000);
            dueNearest(g, 1499, 1000);
            dueNearest(g, 1500, 1000);
            dueNearest(g, 1501, 2000);
            dueNearest(g, 2500, 2000);
            dueNearest(g, 2501, 3000);
            dueNearest(g, 4000, 3000);
            dueNearest(g, 4001, 5000);
            dueNearest(g, 6500, 6000);
            dueNearest(g, 6501, 7000);
            dueNearest(g, 8000, 7000);
            g.wring(0, g.ranked(0, 2));
            dueNearest(g, 5000, 3000);
        }
    }

    @Sentence(of = "27", says = "`length`: 500 to 600000")
    static void nearestEachLength() {
        GaugeBlocks g = Checks.with(500, 100000, 100000);
        dueNearest(g, 500, 500);
        dueNearest(g, 501, 500);
        dueNearest(g, 600000, 200000);
        dueNearest(g, 599999, 200000);
        dueNearest(Checks.with(100000), 500, 100000);
        dueNearest(Checks.with(500), 600000, 500);
    }

    @Sentence(of = "27", says = "Returns this length; NONE without free blocks")
    static void nearestReturns() {
        dueNearest(new GaugeBlocks(), 500, -1);
        dueNearest(new GaugeBlocks(), 600000, -1);
        GaugeBlocks g = Checks.with(1000, 2000);
        dueNearest(g, 600000, 3000);
        g.wring(0, 1);
        dueNearest(g, 600000, 1000);
        g.wring(1, 0);
        dueNearest(g, 1000, -1);
        g.takeOff(0);
        dueNearest(g, 1000, 2000);
        g.discard(1);
        dueNearest(g, 1000, -1);
        GaugeBlocks last = Checks.full();
        dueNearest(last, 2037, 2037);
        dueNearest(last, 1019, 1019);
    }

    @Sentence(of = "27", says = "Throws `IllegalArgumentException` if length is out of range")
    static void nearestOutOfRange() {
        GaugeBlocks g = Checks.with(1000);
        GaugeBlocks none = new GaugeBlocks();
        for (int length : new int[] {499, 600001, 0, -1000, LOW, HIGH}) {
            Checks.dueIllegal("nearest(" + length + ")", g, () -> g.nearest(length));
            Checks.dueIllegal("nearest(" + length + ") of none", none, () -> none.nearest(length));
        }
    }
}
