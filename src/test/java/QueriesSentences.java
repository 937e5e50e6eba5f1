/** The sentences of promises 20 to 22 and 28 to 30: orders, lengths, counts, cooling, later lengths, the mean error. */
final class QueriesSentences {
    private static final int LOW = Integer.MIN_VALUE;
    private static final int HIGH = Integer.MAX_VALUE;

    private QueriesSentences() {
    }

    // ---- promise 20: ranked

    private static void dueOrder(GaugeBlocks g, int how, int... order) {
        for (int rank = 0; rank < order.length; rank++) {
            Checks.due("ranked(" + how + ", " + rank + ")", g.ranked(how, rank), order[rank]);
        }
        Checks.due("ranked(" + how + ", " + order.length + ")", g.ranked(how, order.length), -1);
    }

    @Sentence(of = "20", says = "Returns a block by its place in an order")
    static void rankedAnswers() {
        GaugeBlocks g = Checks.with(3000, 1000, 2000);
        dueOrder(g, 0, 1, 2, 0);
        g.wring(0, 1);
        dueOrder(g, 0, 1, 2, 0);
        g.discard(2);
        dueOrder(g, 0, 1, 0);
        g.undo();
        dueOrder(g, 0, 1, 2, 0);
    }

    @Sentence(of = "20", says = "`how`: 0 by nominal length, the shortest first, 1 by warmth, the warmest first, 2 "
        + "by the size of the error, the greatest first; of several the one with the lowest number first")
    static void rankedEachHow() {
        GaugeBlocks g = new GaugeBlocks();
        g.block(2000, 100);
        g.block(100000, -900);
        g.block(500, -101);
        g.block(2000, -100);
        g.block(500, 899);
        g.hold(0, 2);
        g.hold(2, 60);
        g.hold(3, 2);
        dueOrder(g, 0, 2, 4, 0, 3, 1);
        dueOrder(g, 1, 2, 0, 3, 1, 4);
        dueOrder(g, 2, 1, 4, 2, 0, 3);
        GaugeBlocks same = Checks.with(1000, 1000, 1000);
        for (int how = 0; how <= 2; how++) {
            dueOrder(same, how, 0, 1, 2);
        }
        same.wring(0, 2);
        same.wring(0, 1);
        dueOrder(same, 1, 1, 2, 0);
        dueOrder(same, 2, 1, 2, 0);
    }

    @Sentence(of = "20", says = "`rank`: 0 for the first one, and so on")
    static void rankedEachRank() {
        GaugeBlocks g = Checks.full();
        for (int rank = 0; rank < 20; rank++) {
            for (int how = 0; how <= 2; how++) {
                Checks.due("ranked(" + how + ", " + rank + ")", g.ranked(how, rank), rank);
            }
        }
    }

    @Sentence(of = "20", says = "Returns the number of the block; NONE if there are not so many")
    static void rankedReturns() {
        GaugeBlocks full = Checks.full();
        GaugeBlocks one = Checks.with(1000);
        GaugeBlocks none = new GaugeBlocks();
        for (int how = 0; how <= 2; how++) {
            Checks.due("the last of 20", full.ranked(how, 19), 19);
            for (int rank : new int[] {20, 21, HIGH}) {
                Checks.due("of 20", full.ranked(how, rank), -1);
            }
            Checks.due("the only one", one.ranked(how, 0), 0);
            Checks.due("of one", one.ranked(how, 1), -1);
            Checks.due("of none", none.ranked(how, 0), -1);
        }
        full.discard(0);
        Checks.due("of 19", full.ranked(0, 19), -1);
    }

    @Sentence(of = "20", says = "Throws `IllegalArgumentException` if how is not 0 to 2, or rank is negative")
    static void rankedOutOfRange() {
        GaugeBlocks g = Checks.with(1000);
        for (int how : new int[] {-1, 3, LOW, HIGH}) {
            Checks.dueIllegal("ranked(" + how + ", 0)", g, () -> g.ranked(how, 0));
            Checks.dueIllegal("ranked(" + how + ", -1)", g, () -> g.ranked(how, -1));
        }
        for (int rank : new int[] {-1, -2, LOW}) {
            for (int how = 0; how <= 2; how++) {
                int order = how;
                Checks.dueIllegal("ranked(" + how + ", " + rank + ")", g, () -> g.ranked(order, rank));
            }
        }
    }

    // ---- promise 21: lengths

    private static void dueLengths(GaugeBlocks g, int... lengths) {
        Checks.due("lengths(-1)", g.lengths(-1), lengths.length);
        for (int rank = 0; rank < lengths.length; rank++) {
            Checks.due("lengths(" + rank + ")", g.lengths(rank), lengths[rank]);
        }
        Checks.due("lengths(" + lengths.length + ")", g.lengths(lengths.length), -1);
    }

    @Sentence(of = "21", says = "Returns how many different nominal lengths the free blocks have, or one of them")
    static void lengthsAnswers() {
        GaugeBlocks g = Checks.with(2000, 1000, 2000, 500);
        dueLengths(g, 500, 1000, 2000);
        g.wring(1, 3);
        dueLengths(g, 1000, 2000);
        g.wring(1, 0);
        dueLengths(g, 1000, 2000);
        g.wring(1, 2);
        dueLengths(g, 1000);
        g.wring(1, 1);
        dueLengths(g);
        g.takeOff(1);
        dueLengths(g, 1000);
    }

    @Sentence(of = "21", says = "`rank`: NONE for the number of different lengths; 0 for the shortest length, 1 for "
        + "the next one, and so on")
    static void lengthsEachRank() {
        GaugeBlocks g = new GaugeBlocks();
        int[] lengths = new int[20];
        for (int i = 0; i < 20; i++) {
            g.block(500 + 5000 * (19 - i), 0);
            lengths[i] = 500 + 5000 * i;
        }
        dueLengths(g, lengths);
        Checks.due("NONE", g.lengths(GaugeBlocks.NONE), 20);
        dueLengths(Checks.with(100000, 500, 100000), 500, 100000);
        dueLengths(Checks.with(700, 700, 700), 700);
    }

    @Sentence(of = "21", says = "Returns the number, or the length; NONE if there are not so many lengths")
    static void lengthsReturns() {
        dueLengths(new GaugeBlocks());
        GaugeBlocks full = Checks.full();
        GaugeBlocks two = Checks.with(700, 600, 700, 600);
        for (int rank : new int[] {20, 21, 32, HIGH}) {
            Checks.due("of 20", full.lengths(rank), -1);
        }
        for (int rank : new int[] {2, 3, 20, HIGH}) {
            Checks.due("four blocks have two", two.lengths(rank), -1);
        }
        Checks.due("the number of two", two.lengths(-1), 2);
        Checks.due("without blocks", new GaugeBlocks().lengths(HIGH), -1);
    }

    @Sentence(of = "21", says = "Throws `IllegalArgumentException` if rank is less than NONE")
    static void lengthsOutOfRange() {
        GaugeBlocks g = Checks.with(1000);
        GaugeBlocks none = new GaugeBlocks();
        for (int rank : new int[] {-2, -3, LOW}) {
            Checks.dueIllegal("lengths(" + rank + ")", g, () -> g.lengths(rank));
            Checks.dueIllegal("lengths(" + rank + ") of none", none, () -> none.lengths(rank));
        }
    }

    // ---- promise 22: count

    @Sentence(of = "22", says = "Returns a number")
    static void countAnswers() {
        GaugeBlocks g = Checks.with(1000, 2000);
        g.wring(0, 1);
        g.wring(0, 0);
        g.wring(1, 0);
        g.takeOff(0);
        g.rest(7);
        Checks.type(g, "r1;");
        int[] due = {2, 1, 7, 2, 1, 12, 1, 0, 6, 3};
        for (int what = 0; what <= 9; what++) {
            Checks.due("count(" + what + ")", g.count(what), due[what]);
        }
    }

    @Sentence(of = "22", says = "`what`: 0 the blocks, 1 the free blocks as a set, 2 the minutes so far, 3 the times "
        + "that blocks were wrung so far, 4 the times that blocks were taken off so far, 5 the wear of all blocks "
        + "together, 6 the refusals so far (of wring() and make()), 7 the blocks of the grade 3 as a set, 8 the "
        + "number of saved states, 9 the length of the buffer")
    static void countEachWhat() {
        GaugeBlocks g = new GaugeBlocks();
        dueCounts(g, "at first", 0, 0, 0, 0, 0, 0, 0, 0, 0, 0);
        g.block(1000, -498);
        g.block(2000, 501);
        g.block(3000, 0);
        dueCounts(g, "three blocks", 3, 7, 0, 0, 0, 0, 0, 2, 3, 0);
        g.wring(0, 0);
        g.wring(0, 2);
        dueCounts(g, "a wrung one became bad", 3, 2, 0, 2, 0, 6, 0, 3, 5, 0);
        g.wring(0, 1);
        dueCounts(g, "wring refuses", 3, 2, 0, 2, 0, 6, 1, 3, 6, 0);
        g.make(1, 2000);
        dueCounts(g, "make refuses", 3, 2, 0, 2, 0, 6, 2, 3, 6, 0);
        g.make(1, 3000);
        dueCounts(g, "no such blocks is no refusal", 3, 2, 0, 2, 0, 6, 2, 3, 6, 0);
        g.takeOff(0);
        dueCounts(g, "taken off", 3, 6, 0, 2, 1, 12, 2, 3, 6, 0);
        g.calibrate(2);
        dueCounts(g, "calibrated", 3, 6, 0, 2, 1, 6, 2, 3, 6, 0);
        g.discard(2);
        dueCounts(g, "one that was wrung goes", 2, 2, 0, 2, 1, 6, 2, 3, 6, 0);
        g.rest(60);
        g.append('r');
        dueCounts(g, "minutes", 2, 2, 60, 2, 1, 6, 2, 3, 6, 1);
        g.takeOff(0);
        g.discard(0);
        g.discard(0);
        dueCounts(g, "all gone", 0, 0, 60, 2, 2, 0, 2, 0, 6, 1);
        g.undo();
        dueCounts(g, "undone", 1, 1, 60, 2, 2, 0, 2, 1, 5, 1);
    }

    private static void dueCounts(GaugeBlocks g, String when, int... due) {
        for (int what = 0; what <= 9; what++) {
            Checks.due(when + ", count(" + what + ")", g.count(what), due[what]);
        }
    }

    @Sentence(of = "22", says = "Returns the number")
    static void countReturns() {
        GaugeBlocks g = new GaugeBlocks();
        for (int block = 0; block < 20; block++) {
            g.block(1000, 900);
        }
        Checks.type(g, "x".repeat(60));
        dueCounts(g, "full", 20, 0xFFFFF, 0, 0, 0, 0, 0, 0xFFFFF, 6, 60);
        for (int block = 0; block < 20; block++) {
            g.wring(0, block);
        }
        Checks.due("refusals", g.count(6), 20);
        Checks.due("still free", g.count(1), 0xFFFFF);
        GaugeBlocks worn = Checks.worn(0, 1000);
        Checks.due("much wear", worn.count(5), 1000);
    }

    @Sentence(of = "22", says = "Throws `IllegalArgumentException` if what is not 0 to 9")
    static void countOutOfRange() {
        GaugeBlocks g = Checks.full();
        for (int what : new int[] {-1, 10, LOW, HIGH}) {
            Checks.dueIllegal("count(" + what + ")", g, () -> g.count(what));
        }
    }

    // ---- promise 28: coolIn

    @Sentence(of = "28",
        says = "Tells in how many minutes the warmth of a block would not be greater than the setting 1 any more")
    static void coolInTells() {
        GaugeBlocks g = Checks.with(1000, 2000);
        Checks.warmTo(g, 0, 1000);
        int[] warmth = {1000, 900, 810, 729, 656, 590, 531, 477, 429, 386, 347, 312, 280};
        for (int minutes = 0; minutes < warmth.length; minutes++) {
            g.set(1, warmth[minutes]);
            Checks.due("not greater than " + warmth[minutes], g.coolIn(0), minutes);
            g.set(1, warmth[minutes] - 1);
            Checks.due("not greater than 1 less", g.coolIn(0), minutes + 1);
        }
        g.set(1, 1000);
        g.wring(2, 0);
        g.set(1, 899);
        Checks.due("a wrung one", g.coolIn(0), 2);
        g.hold(1, 2);
        g.set(1, 0);
        Checks.due("10, 9, 8 down to 0", g.coolIn(1), 10);
        Checks.due("the warmth stays", g.blockOf(1, 3), 10);
        Checks.due("no minutes", g.count(2), 0);
        g.rest(9);
        Checks.due("a last one", g.coolIn(1), 1);
        g.rest(1);
        Checks.due("cold", g.coolIn(1), 0);
    }

    @Sentence(of = "28", says = "`block`: its number")
    static void coolInEachNumber() {
        GaugeBlocks g = Checks.full();
        g.set(1, 4);
        g.hold(0, 1);
        g.hold(19, 2);
        Checks.due("the first", g.coolIn(0), 1);
        Checks.due("the last: 10, 9, 8, 7, 6, 5, 4", g.coolIn(19), 6);
        Checks.due("another one", g.coolIn(18), 0);
    }

    @Sentence(of = "28", says = "Returns the number of minutes, 0 if it is so now")
    static void coolInReturns() {
        GaugeBlocks g = Checks.with(1000);
        Checks.due("a cold one", g.coolIn(0), 0);
        g.set(1, 0);
        Checks.due("0 is not greater than 0", g.coolIn(0), 0);
        g.set(1, 300);
        Checks.warmTo(g, 0, 300);
        Checks.due("300 is not greater than 300", g.coolIn(0), 0);
        g.hold(0, 1);
        Checks.due("305 becomes 274", g.coolIn(0), 1);
        Checks.warmTo(g, 0, 1000);
        g.set(1, 0);
        int minutes = g.coolIn(0);
        for (int passed = 0; passed < minutes; passed++) {
            Checks.dueTrue("not yet cold", g.blockOf(0, 3) > 0);
            g.rest(1);
        }
        Checks.due("cold then", g.blockOf(0, 3), 0);
    }

    @Sentence(of = "28", says = "Throws `IndexOutOfBoundsException` if there is no such block")
    static void coolInNoSuchBlock() {
        Checks.dueNoSuchBlock("coolIn", GaugeBlocks::coolIn);
    }

    // ---- promise 29: lengthIn

    /** The stack 1 holds a block of 100000 at 1000 and one of 50000 at 5; the film is 10, the wear 3. */
    private static GaugeBlocks warmStack() {
        GaugeBlocks g = Checks.with(100000, 50000);
        g.set(1, 1000);
        g.set(3, 0);
        Checks.warmTo(g, 0, 1000);
        g.hold(1, 1);
        g.wring(1, 0);
        g.wring(1, 1);
        return g;
    }

    @Sentence(of = "29",
        says = "Tells the true length that a stack would have after some minutes, if nothing else was done")
    static void lengthInTells() {
        GaugeBlocks g = warmStack();
        int cold = 150000000 - 6 + 10;
        Checks.due("1000 and 5", g.lengthIn(1, 0), cold + 11500 + 28);
        Checks.due("900 and 4", g.lengthIn(1, 1), cold + 10350 + 23);
        Checks.due("810 and 3", g.lengthIn(1, 2), cold + 9315 + 17);
        Checks.due("cold", g.lengthIn(1, 600), cold);
        Checks.due("the warmth stays", g.blockOf(0, 3), 1000);
        Checks.due("no minutes", g.count(2), 0);
        int later = g.lengthIn(1, 60);
        g.rest(60);
        Checks.due("after an hour", g.stackOf(1, 2), later);
        Checks.due("now", g.lengthIn(1, 0), later);
    }

    @Sentence(of = "29", says = "`stack`: 0 to 2")
    static void lengthInEachStack() {
        GaugeBlocks g = Checks.with(1000, 2000, 3000);
        for (int stack = 0; stack <= 2; stack++) {
            g.wring(stack, stack);
        }
        for (int stack = 0; stack <= 2; stack++) {
            Checks.due("cold", g.lengthIn(stack, 600), 1000000 + 1000000 * stack);
        }
    }

    @Sentence(of = "29", says = "`minutes`: 0 to 600")
    static void lengthInMinutes() {
        GaugeBlocks g = warmStack();
        Checks.due("none", g.lengthIn(1, 0), g.stackOf(1, 2));
        int before = g.lengthIn(1, 0);
        for (int minutes = 1; minutes <= 60; minutes++) {
            int later = g.lengthIn(1, minutes);
            Checks.dueTrue("never longer", later <= before);
            before = later;
        }
        Checks.due("599", g.lengthIn(1, 599), 150000004);
        Checks.due("600", g.lengthIn(1, 600), 150000004);
    }

    @Sentence(of = "29", says = "Returns the true length")
    static void lengthInReturns() {
        GaugeBlocks g = Checks.withSixIn(0);
        g.set(0, 60);
        Checks.due("six, and five films", g.lengthIn(0, 600), 21000000 - 30 + 300);
        for (int minutes : new int[] {0, 1, 600}) {
            Checks.due("an empty one", g.lengthIn(1, minutes), 0);
            Checks.due("an empty one", new GaugeBlocks().lengthIn(2, minutes), 0);
        }
    }

    @Sentence(of = "29", says = "Throws `IndexOutOfBoundsException` if there is no such stack")
    static void lengthInNoSuchStack() {
        GaugeBlocks g = warmStack();
        for (int stack : new int[] {-1, 3, LOW, HIGH}) {
            for (int minutes : new int[] {-1, 0, 600, 601}) {
                Checks.dueIndex("lengthIn(" + stack + ", " + minutes + ")", g, () -> g.lengthIn(stack, minutes));
            }
        }
    }

    @Sentence(of = "29", says = "Throws `IllegalArgumentException` if minutes is out of range")
    static void lengthInOutOfRange() {
        GaugeBlocks g = warmStack();
        for (int minutes : new int[] {-1, 601, LOW, HIGH}) {
            Checks.dueIllegal("lengthIn(1, " + minutes + ")", g, () -> g.lengthIn(1, minutes));
            Checks.dueIllegal("lengthIn(0, " + minutes + ")", g, () -> g.lengthIn(0, minutes));
        }
    }

    // ---- promise 30: meanError

    @Sentence(of = "30", says = "Returns the mean size of the errors of the blocks")
    static void meanErrorAnswers() {
        GaugeBlocks g = new GaugeBlocks();
        g.block(1000, -100);
        g.block(2000, 101);
        Checks.dueDouble("the sizes, not the errors", g.meanError(), 100.5);
        g.wring(0, 0);
        g.wring(0, 1);
        Checks.dueDouble("wear, and wrung ones", g.meanError(), 100.5);
        g.block(3000, 0);
        Checks.dueDouble("one without an error counts", g.meanError(), 201.0 / 3.0);
    }

    @Sentence(of = "30", says = "Returns the sum of the sizes as a double, divided by the number of blocks as a "
        + "double; 0.0 without blocks")
    static void meanErrorReturns() {
        GaugeBlocks g = new GaugeBlocks();
        Checks.dueDouble("without blocks", g.meanError(), 0.0);
        g.block(1000, 0);
        Checks.dueDouble("no error", g.meanError(), 0.0);
        g.block(1000, 0);
        g.block(1000, 1);
        Checks.dueDouble("a third", g.meanError(), 1.0 / 3.0);
        g.discard(2);
        g.discard(0);
        g.discard(0);
        Checks.dueDouble("without blocks again", g.meanError(), 0.0);
        GaugeBlocks full = new GaugeBlocks();
        for (int block = 0; block < 20; block++) {
            full.block(1000, block % 2 == 0 ? 900 : -899);
        }
        Checks.dueDouble("20 blocks", full.meanError(), 17990.0 / 20.0);
        Checks.dueDouble("worn by 1000", Checks.worn(-500, 1000).meanError(), 1500.0);
    }
}
