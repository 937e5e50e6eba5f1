import java.util.ArrayList;
import java.util.List;

/** The sentences of the terms, which several promises share. */
final class TermsSentences {
    private TermsSentences() {
    }

    // ---- all together

    @Sentence(of = "What it is",
        says = "An object is used for at most 512 calls after it has been made; what later calls answer is free")
    static void theLastCallStillAnswers() {
        GaugeBlocks g = new GaugeBlocks();
        for (int calls = 1; calls < 512; calls++) {
            g.rest(60);
        }
        Checks.due("the 512th call", g.count(2), 511 * 60);
        GaugeBlocks full = Checks.full();
        for (int calls = 21; calls < 512; calls++) {
            full.fewest(6099, 1);
        }
        Checks.due("the 512th call", full.fewest(6099, 1), 0b11111100000000000000);
    }

    @Sentence(of = "Terms", says = "Divisions round toward zero")
    static void divisionsRoundTowardZero() {
        GaugeBlocks g = Checks.with(1999);
        g.hold(0, 1);
        Checks.due("1999 * 5 / 1000 is 9, and 9 * 115 / 1000 is 1", g.blockOf(0, 5), 1999001);
        g.block(500, 0);
        g.hold(1, 3);
        Checks.due("500 * 15 / 1000 is 7, and 7 * 115 / 1000 is 0", g.blockOf(1, 5), 500000);
    }

    @Sentence(of = "Terms", says = "Sets of blocks are bit masks: bit k stands for the block k")
    static void setsAreMasks() {
        GaugeBlocks g = Checks.full();
        Checks.due("all 20", g.count(1), 0xFFFFF);
        g.wring(1, 0);
        g.wring(2, 19);
        Checks.due("without the first and the last", g.count(1), 0x7FFFE);
        Checks.due("the first", g.stackOf(1, 3), 1);
        Checks.due("the last", g.stackOf(2, 3), 1 << 19);
        Checks.due("none", g.stackOf(0, 3), 0);
        Checks.due("none without blocks", new GaugeBlocks().count(1), 0);
        Checks.due("the block 18", g.fewest(1018, 1), 1 << 18);
    }

    // ---- blocks

    @Sentence(of = "Blocks", says = "There are at most 20 blocks, numbered from 0 in the order in which they came; "
        + "when one goes, the numbers of the later ones become less by 1")
    static void numbersOfBlocks() {
        GaugeBlocks g = new GaugeBlocks();
        for (int block = 0; block < 20; block++) {
            Checks.due("the number", g.block(1000 + block, 0), block);
        }
        Checks.dueState("one more", g, () -> g.block(1000, 0));
        g.wring(0, 19);
        g.wring(0, 10);
        g.discard(11);
        g.discard(0);
        Checks.due("a place is free", g.block(5000, 0), 18);
        Checks.due("one more place", g.block(6000, 0), 19);
        Checks.dueState("one more", g, () -> g.block(1000, 0));
        for (int block = 0; block < 18; block++) {
            Checks.due("the length of " + block, g.blockOf(block, 0), 1000 + (block < 10 ? block + 1 : block + 2));
        }
        Checks.due("wrung ones get less numbers too", g.stackOf(0, 3), 1 << 17 | 1 << 9);
        Checks.due("the uppermost one", g.takeOff(0), 9);
        Checks.due("the lowest one", g.takeOff(0), 17);
    }

    @Sentence(of = "Blocks", says = "A block has a nominal length from 500 to 100000, a deviation from -900 to 900, "
        + "a wear, which is 0 at first, and a warmth from 0 to 1000, which is 0 at first")
    static void numbersThatABlockHas() {
        GaugeBlocks g = new GaugeBlocks();
        g.block(500, -900);
        g.block(100000, 900);
        int[] shortest = {500, 9100, 0, 0};
        int[] longest = {100000, 10900, 0, 0};
        for (int what = 0; what <= 3; what++) {
            Checks.due("the shortest, " + what, g.blockOf(0, what), shortest[what]);
            Checks.due("the longest, " + what, g.blockOf(1, what), longest[what]);
        }
        Checks.warmTo(g, 1, 1000);
        g.hold(1, 1);
        Checks.due("the greatest warmth", g.blockOf(1, 3), 1000);
        g.rest(60);
        g.rest(60);
        Checks.due("the least warmth", g.blockOf(1, 3), 0);
        GaugeBlocks worn = Checks.with(1000, 2000);
        worn.wring(0, 0);
        worn.wring(0, 1);
        worn.takeOff(0);
        worn.discard(1);
        worn.block(700, 5);
        int[] due = {700, 10005, 0, 0, 0, 700005, -1, -1, 0};
        for (int what = 0; what <= 8; what++) {
            Checks.due("one that gets the number of a worn one, " + what, worn.blockOf(1, what), due[what]);
        }
    }

    @Sentence(of = "Blocks", says = "A block is free if it is in no stack")
    static void freeBlocks() {
        GaugeBlocks g = Checks.with(1000, 2000, 3000, 4000);
        Checks.due("all", g.count(1), 15);
        for (int stack = 0; stack <= 2; stack++) {
            g.wring(stack, stack);
            Checks.due("wrung to " + stack, g.count(1), 15 & -(2 << stack));
        }
        g.wring(1, 3);
        Checks.due("none", g.count(1), 0);
        g.takeOff(1);
        Checks.due("the uppermost one again", g.count(1), 8);
    }

    @Sentence(of = "Blocks", says = "The true length of a block is 1000 times its nominal length, plus its "
        + "deviation, minus its wear, plus nominal length * warmth / 1000 * 115 / 1000 (computed in this order, from "
        + "left to right)")
    static void trueLengthOfABlock() {
        GaugeBlocks g = new GaugeBlocks();
        g.block(100000, 900);
        g.block(500, -900);
        g.block(99999, 0);
        Checks.due("the longest, cold", g.blockOf(0, 5), 100000900);
        Checks.due("the shortest, cold", g.blockOf(1, 5), 499100);
        for (int block = 0; block < 3; block++) {
            Checks.warmTo(g, block, 1000);
        }
        Checks.due("the longest, at its warmest", g.blockOf(0, 5), 100000900 + 11500);
        Checks.due("the shortest, at its warmest", g.blockOf(1, 5), 499100 + 57);
        Checks.due("99999, at its warmest", g.blockOf(2, 5), 99999000 + 11499);
        Checks.due("worn", Checks.worn(400, 37).blockOf(0, 5), 1000000 + 400 - 37);
        GaugeBlocks steps = Checks.with(1017);
        steps.hold(0, 10);
        Checks.due("1017 * 50 / 1000 is 50, and 50 * 115 / 1000 is 5", steps.blockOf(0, 5), 1017005);
        GaugeBlocks order = Checks.with(1999);
        order.hold(0, 7);
        Checks.due("1999 * 35 / 1000 is 69, and 69 * 115 / 1000 is 7, not 8", order.blockOf(0, 5), 1999007);
    }

    @Sentence(of = "Blocks", says = "The error of a block is its deviation minus its wear")
    static void errorOfABlock() {
        Checks.due("as it came", Checks.worn(-17, 0).blockOf(0, 1), 9983);
        Checks.due("worn", Checks.worn(100, 41).blockOf(0, 1), 10059);
        Checks.due("worn below 0", Checks.worn(20, 41).blockOf(0, 1), 9979);
        Checks.due("worn to 0", Checks.worn(41, 41).blockOf(0, 1), 10000);
        Checks.due("below -900", Checks.worn(-500, 1000).blockOf(0, 1), 8500);
    }

    @Sentence(of = "Blocks", says = "Its grade is 0 if the size of its error is at most 100, 1 if it is at most 250, "
        + "2 if it is at most 500, and otherwise 3")
    static void grades() {
        int[] size = {0, 100, 101, 250, 251, 500, 501, 900};
        int[] grade = {0, 0, 1, 1, 2, 2, 3, 3};
        GaugeBlocks g = new GaugeBlocks();
        for (int i = 0; i < size.length; i++) {
            Checks.due("grade of " + size[i], g.blockOf(g.block(1000, size[i]), 4), grade[i]);
            Checks.due("grade of -" + size[i], g.blockOf(g.block(1000, -size[i]), 4), grade[i]);
        }
        Checks.due("wear makes it better", Checks.worn(101, 1).blockOf(0, 4), 0);
        Checks.due("wear makes it worse", Checks.worn(-500, 1).blockOf(0, 4), 3);
        Checks.due("worn to -100", Checks.worn(100, 200).blockOf(0, 4), 0);
        Checks.due("worn to -101", Checks.worn(100, 201).blockOf(0, 4), 1);
    }

    // ---- stacks

    @Sentence(of = "Stacks",
        says = "There are three stacks, 0 to 2, each of at most 6 blocks; they are empty at first")
    static void stacks() {
        for (int stack = 0; stack <= 2; stack++) {
            Checks.due("empty at first", new GaugeBlocks().stackOf(stack, 0), 0);
            GaugeBlocks g = Checks.withSixIn(stack);
            Checks.due("six", g.stackOf(stack, 0), 6);
            Checks.due("not a seventh", g.wring(stack, 6), 2);
            Checks.due("still six", g.stackOf(stack, 0), 6);
            Checks.due("to another one", g.wring((stack + 1) % 3, 6), 0);
        }
        GaugeBlocks g = Checks.with(1000);
        Checks.dueIndex("no stack -1", g, () -> g.stackOf(-1, 0));
        Checks.dueIndex("no stack 3", g, () -> g.stackOf(3, 0));
    }

    @Sentence(of = "Stacks", says = "The true length of a stack is the sum of the true lengths of its blocks, plus "
        + "the setting 0 for each place at which two blocks meet; 0 for an empty stack")
    static void trueLengthOfAStack() {
        GaugeBlocks g = Checks.with(1000, 2000, 3000, 4000, 5000, 6000);
        g.set(2, 0);
        g.set(3, 0);
        int sum = 0;
        Checks.due("empty", g.stackOf(1, 2), 0);
        for (int block = 0; block < 6; block++) {
            g.wring(1, block);
            sum += g.blockOf(block, 5);
            for (int film : new int[] {0, 10, 60}) {
                g.set(0, film);
                Checks.due("film " + film + " under " + block, g.stackOf(1, 2), sum + film * block);
            }
        }
        for (int block = 5; block >= 0; block--) {
            g.takeOff(1);
        }
        Checks.due("empty again", g.stackOf(1, 2), 0);
    }

    @Sentence(of = "Stacks", says = "When a block is wrung to a stack, it becomes its uppermost block; when the "
        + "uppermost block is taken off, it is free")
    static void uppermostBlocks() {
        GaugeBlocks g = Checks.with(1000, 2000, 3000);
        int[] order = {1, 2, 0};
        for (int place = 0; place < 3; place++) {
            g.wring(0, order[place]);
            Checks.due("the uppermost", g.stackOf(0, 4), order[place]);
            Checks.due("its place", g.blockOf(order[place], 7), place);
        }
        for (int place = 2; place >= 0; place--) {
            Checks.due("off", g.takeOff(0), order[place]);
            Checks.due("free", g.blockOf(order[place], 6), -1);
            Checks.due("without a place", g.blockOf(order[place], 7), -1);
            Checks.due("the uppermost", g.stackOf(0, 4), place == 0 ? -1 : order[place - 1]);
        }
    }

    @Sentence(of = "Stacks", says = "In both cases the warmth of this block increases by the setting 3, but at most "
        + "to 1000, and if there is a block below it in the stack, the wear of both increases by the setting 2")
    static void warmthAndWear() {
        GaugeBlocks g = Checks.with(1000, 2000, 3000);
        g.set(1, 1000);
        g.wring(0, 0);
        dueWarmthAndWear(g, 0, 40, 0);
        g.takeOff(0);
        dueWarmthAndWear(g, 0, 80, 0);
        g.wring(0, 1);
        g.wring(0, 2);
        dueWarmthAndWear(g, 1, 40, 3);
        dueWarmthAndWear(g, 2, 40, 3);
        g.set(2, 20);
        g.set(3, 200);
        g.wring(0, 0);
        dueWarmthAndWear(g, 0, 280, 20);
        dueWarmthAndWear(g, 1, 40, 3);
        dueWarmthAndWear(g, 2, 40, 23);
        g.set(2, 0);
        g.set(3, 0);
        g.takeOff(0);
        dueWarmthAndWear(g, 0, 280, 20);
        dueWarmthAndWear(g, 2, 40, 23);
        Checks.warmTo(g, 0, 800);
        g.set(3, 200);
        g.wring(1, 0);
        Checks.due("800 and 200", g.blockOf(0, 3), 1000);
        g.takeOff(1);
        Checks.due("1000 and 200", g.blockOf(0, 3), 1000);
        g.rest(1);
        g.set(3, 101);
        g.wring(1, 0);
        Checks.due("900 and 101", g.blockOf(0, 3), 1000);
        g.rest(1);
        g.set(3, 99);
        g.takeOff(1);
        Checks.due("900 and 99", g.blockOf(0, 3), 999);
    }

    private static void dueWarmthAndWear(GaugeBlocks g, int block, int warmth, int wear) {
        Checks.due("the warmth of " + block, g.blockOf(block, 3), warmth);
        Checks.due("the wear of " + block, g.blockOf(block, 2), wear);
    }

    @Sentence(of = "Stacks", says = "A block is refused by a stack for the first of these reasons that applies: 1 "
        + "the block is not free; 2 the stack has 6 blocks; 3 the warmth of the block is greater than the setting 1; "
        + "4 its grade is 3")
    static void reasons() {
        GaugeBlocks g = Checks.withSixIn(0);
        g.block(2000, 501);
        Checks.warmTo(g, 7, 305);
        g.set(1, 30);
        Checks.due("not free, full and warm", g.wring(0, 5), 1);
        Checks.due("not free, warm", g.wring(1, 5), 1);
        Checks.due("full, warm and bad", g.wring(0, 7), 2);
        Checks.due("only full", g.wring(0, 6), 2);
        Checks.due("warm and bad", g.wring(1, 7), 3);
        g.set(1, 304);
        Checks.due("305 is greater than 304", g.wring(1, 7), 3);
        g.set(1, 305);
        Checks.due("305 is not greater than 305: bad", g.wring(1, 7), 4);
        Checks.due("a good one", g.wring(1, 6), 0);
        g.block(2000, 500);
        g.block(2000, -500);
        Checks.due("an error of 500", g.wring(1, 8), 0);
        Checks.due("an error of -500", g.wring(1, 9), 0);
        GaugeBlocks worn = Checks.worn(-500, 1);
        Checks.due("an error of -501", worn.wring(1, 0), 4);
        worn.set(1, 0);
        Checks.due("0 is not greater than 0", worn.wring(1, 0), 4);
        GaugeBlocks bad = new GaugeBlocks();
        bad.block(1000, -500);
        bad.block(1000, 0);
        bad.wring(0, 0);
        bad.wring(0, 1);
        Checks.due("one that became bad in its stack", bad.wring(1, 0), 1);
    }

    // ---- minutes and settings

    @Sentence(of = "Minutes",
        says = "In a minute the warmth of each block decreases by a tenth of it, rounded up: by (warmth + 9) / 10")
    static void minutes() {
        GaugeBlocks g = Checks.with(1000, 2000, 3000);
        g.set(1, 1000);
        g.set(3, 1);
        for (int i = 0; i < 11; i++) {
            if (i % 2 == 0) {
                g.wring(0, 0);
            } else {
                g.takeOff(0);
            }
        }
        Checks.warmTo(g, 1, 1000);
        int[] wrung = {11, 9, 8, 7, 6, 5, 4, 3, 2, 1, 0, 0};
        int[] warm = {1000, 900, 810, 729, 656, 590, 531, 477, 429, 386, 347, 312};
        for (int minute = 0; minute < wrung.length; minute++) {
            Checks.due("after " + minute, g.blockOf(0, 3), wrung[minute]);
            Checks.due("after " + minute, g.blockOf(1, 3), warm[minute]);
            Checks.due("a cold one after " + minute, g.blockOf(2, 3), 0);
            g.rest(1);
        }
        g.hold(2, 2);
        g.rest(1);
        Checks.due("10 becomes 9", g.blockOf(2, 3), 9);
    }

    @Sentence(of = "Settings", says = "0: the film, 0 to 60, at first 10; 1: the greatest warmth for wringing, 0 to "
        + "1000, at first 300; 2: the wear of wringing, 0 to 20, at first 3; 3: the warmth of a hand, 0 to 200, at "
        + "first 40")
    static void settings() {
        int[] greatest = {60, 1000, 20, 200};
        int[] first = {10, 300, 3, 40};
        GaugeBlocks g = new GaugeBlocks();
        for (int setting = 0; setting <= 3; setting++) {
            int one = setting;
            Checks.due("at first", g.setting(one), first[one]);
            Checks.dueIllegal("below the least", g, () -> g.set(one, -1));
            Checks.dueIllegal("above the greatest", g, () -> g.set(one, greatest[one] + 1));
            g.set(one, greatest[one]);
            Checks.due("the greatest", g.setting(one), greatest[one]);
            g.set(one, 0);
            Checks.due("the least", g.setting(one), 0);
        }
    }

    // ---- finding blocks

    @Sentence(of = "Finding blocks",
        says = "Free blocks make a length if the sum of their nominal lengths is this length")
    static void nominalLengthsMakeALength() {
        GaugeBlocks g = new GaugeBlocks();
        g.block(1000, 900);
        g.block(2000, -900);
        g.hold(0, 60);
        Checks.due("whatever the true length is", g.fewest(3000, 1), 3);
        Checks.due("not 1 less", g.fewest(2999, 1), -1);
        Checks.due("not 1 more", g.fewest(3001, 1), -1);
        g.block(500, 0);
        g.wring(0, 2);
        Checks.due("only free ones", g.fewest(3500, 1), -1);
    }

    @Sentence(of = "Finding blocks", says = "The fewest blocks for a length are 1 to 6 free blocks that make it, as "
        + "few as possible; of several sets with so many blocks the least bit mask")
    static void fewestBlocks() {
        GaugeBlocks seven = Checks.with(600, 600, 600, 600, 600, 600, 600);
        for (int many = 1; many <= 6; many++) {
            Checks.due(many + " blocks", seven.fewest(600 * many, 0), many);
            Checks.due(many + " blocks as a set", seven.fewest(600 * many, 1), (1 << many) - 1);
        }
        Checks.due("seven blocks", seven.fewest(4200, 0), -1);
        GaugeBlocks g = Checks.with(1000, 2000, 3000, 4000, 5000, 6000);
        Checks.due("one, though two with a lesser mask make it", g.fewest(6000, 1), 32);
        Checks.due("7000: 3 and 4, not 1 and 6, nor 2 and 5", g.fewest(7000, 1), 12);
        Checks.due("10000: 4 and 6, not 1, 2, 3 and 4", g.fewest(10000, 1), 8 + 32);
        Checks.due("12000: 3, 4 and 5, not 1, 5 and 6, nor 2, 4 and 6", g.fewest(12000, 1), 4 + 8 + 16);
    }

    @Sentence(of = "Finding blocks",
        says = "The old way to find free blocks for a length is this: the rest is the length at first")
    static void theRestAtFirst() {
        GaugeBlocks none = new GaugeBlocks();
        Checks.due("the least length", none.oldWay(500, 2), 500);
        Checks.due("the greatest length", none.oldWay(600000, 2), 600000);
        GaugeBlocks g = Checks.with(1001);
        g.wring(0, 0);
        Checks.due("without a free block", g.oldWay(1001, 2), 1001);
    }

    @Sentence(of = "Finding blocks", says = "As long as the rest is not 0, the last digit of the rest that is not 0 "
        + "has a place value u (1, 10, 100 and so on); of the free blocks that are not taken yet and whose nominal "
        + "length is at most the rest, the one is taken for which the rest minus its nominal length is divisible by "
        + "10 * u; of several such blocks the longest one, of several of these the one with the lowest number")
    static void theBlockThatTheOldWayTakes() {
        GaugeBlocks places = Checks.with(1001, 10010, 20100, 31000, 40000, 100000);
        Checks.due("each place value", places.oldWay(202111, 1), 63);
        Checks.due("the place value 1000", places.oldWay(31000, 1), 8);
        Checks.due("the place value 100000", places.oldWay(100000, 1), 32);
        Checks.due("1000 - 31000 is divisible by 10000, but 31000 is too long", places.oldWay(1000, 2), 1000);
        Checks.due("not one block twice", places.oldWay(200000, 2), 200000);
        GaugeBlocks longest = Checks.with(505, 1505, 2505, 2505, 4005);
        Checks.due("the longest with the lowest number", longest.oldWay(2505, 1), 4);
        Checks.due("one that is just as long as the rest", longest.oldWay(1505, 1), 2);
        Checks.due("no block ends with 4", longest.oldWay(1504, 2), 1504);
        Checks.due("2505 is longer than the rest", longest.oldWay(2495, 2), 2495 - 1505);
        GaugeBlocks divisible = Checks.with(3500, 3400, 3100, 600);
        Checks.due("4000: none leaves a rest that 10000 divides", divisible.oldWay(4000, 2), 4000);
        Checks.due("4100: 3100 leaves 1000, 3500 leaves 600", divisible.oldWay(4100, 2), 1000);
        Checks.due("3400: 3400 leaves 0", divisible.oldWay(3400, 1), 2);
    }

    @Sentence(of = "Finding blocks", says = "The rest decreases by its nominal length")
    static void theRestDecreases() {
        GaugeBlocks g = new GaugeBlocks();
        g.block(1005, 900);
        g.block(1340, -900);
        Checks.due("to 0", g.oldWay(2345, 2), 0);
        Checks.due("twice", g.oldWay(3345, 2), 1000);
        Checks.due("once", g.oldWay(3005, 2), 2000);
    }

    @Sentence(of = "Finding blocks",
        says = "If there is no such block, or a seventh one would be taken, the old way fails")
    static void theOldWayFails() {
        GaugeBlocks g = Checks.with(10001, 10010, 10100, 11000, 20000, 100000, 500);
        Checks.due("six", g.oldWay(161111, 0), 6);
        Checks.due("six clear each digit, so there is no rest for a seventh", g.oldWay(161111, 2), 0);
        Checks.due("no such block at first", g.oldWay(161112, 0), -1);
        Checks.due("no such block at first, as a set", g.oldWay(161112, 1), -1);
        Checks.due("no such block at last", g.oldWay(261111, 0), -1);
        Checks.due("no such block at last, the rest", g.oldWay(261111, 2), 200000);
        Checks.due("without blocks", new GaugeBlocks().oldWay(500, 0), -1);
    }

    // ---- order text

    @Sentence(of = "Order text", says = "The buffer holds at most 60 characters")
    static void sixtyCharacters() {
        GaugeBlocks g = new GaugeBlocks();
        Checks.type(g, "x".repeat(59));
        Checks.due("the 60th", g.append('x'), 60);
        Checks.dueState("the 61st", g, () -> g.append('x'));
        Checks.due("60", g.count(9), 60);
    }

    @Sentence(of = "Order text", says = "It is empty at first")
    static void emptyBuffer() {
        Checks.due("its length", new GaugeBlocks().count(9), 0);
        Checks.due("clearing it", new GaugeBlocks().clearBuffer(), 0);
        Checks.due("its error", new GaugeBlocks().firstError(), 0);
    }

    @Sentence(of = "Order text", says = "An order text is one or more orders with \";\" between them")
    static void ordersInAText() {
        dueComplete("r1");
        dueComplete("r1;r1");
        dueComplete("r1;".repeat(19) + "r10");
        dueIncomplete("");
        dueIncomplete("r1;");
        dueIncomplete("r1;".repeat(20));
        dueError(";", 0);
        dueError("r1;;", 3);
        dueError("r1r1", 2);
        dueError("r1,r1", 2);
        dueError("r1;r1x", 5);
    }

    @Sentence(of = "Order text", says = "An order is: \"b\" and a nominal length from 500 to 100000 (a block with "
        + "the deviation 0 comes, as block()); or \"w\", a stack from 0 to 2, \"+\", and a block from 0 to 19 (as "
        + "wring()); or \"u\" and a stack from 0 to 2 (as takeOff()); or \"h\", a block from 0 to 19, \",\", and a "
        + "number from 1 to 60 (as hold()); or \"r\" and a number from 1 to 60 (as rest())")
    static void orders() {
        String[] edges = {"b500", "b100000", "w0+0", "w2+19", "u0", "u2", "h0,1", "h19,60", "r1", "r60"};
        for (String text : edges) {
            dueComplete(text);
        }
        dueIncomplete("b499");
        dueError("b499;", 4);
        dueError("b100001", 6);
        dueError("w3", 1);
        dueError("w0+20", 4);
        dueError("u3", 1);
        dueError("h20", 2);
        dueError("h0,0", 3);
        dueError("h0,61", 4);
        dueError("r0", 1);
        dueError("r61", 2);
        dueError("w0,0", 2);
        dueError("h0+1", 2);
        dueError("x", 0);
        dueError("B", 0);
        GaugeBlocks g = new GaugeBlocks();
        Checks.type(g, "b500;b100000;w0+0;w2+1;u2;h0,60;r1");
        Checks.due("all of them", g.execute(), 7);
        Checks.due("the shortest", g.blockOf(0, 5), 500000 + 17);
        Checks.due("the longest", g.blockOf(1, 5), 100000000 + 828);
    }

    @Sentence(of = "Order text", says = "Numbers have no leading zeros")
    static void leadingZeros() {
        dueError("b0", 1);
        dueError("w00", 2);
        dueError("w0+00", 4);
        dueError("w0+05", 4);
        dueError("u00", 2);
        dueError("h00", 2);
        dueError("h05", 2);
        dueError("h0,0", 3);
        dueError("r0", 1);
        dueComplete("w0+10");
        dueComplete("h10,10");
        dueComplete("r10");
        dueComplete("b1000");
    }

    @Sentence(of = "Order text", says = "The first error of the buffer is the index of the first character that no "
        + "order text can have after the characters before it")
    static void firstErrors() {
        dueError("x", 0);
        dueError("xb500", 0);
        dueError("b500xu0x", 4);
        dueError("b10001u", 6);
        dueError("b100001", 6);
        dueError("b10;", 3);
        dueError("r7;r70", 5);
        dueError("r1;".repeat(19) + "r1x", 59);
        dueError("x".repeat(60), 0);
    }

    private static GaugeBlocks typed(String text) {
        GaugeBlocks g = new GaugeBlocks();
        Checks.type(g, text);
        return g;
    }

    private static void dueComplete(String text) {
        GaugeBlocks g = typed(text);
        Checks.due("the error of " + text, g.firstError(), text.length());
        Checks.dueTrue(text + " is executed", g.execute() >= 0);
    }

    private static void dueIncomplete(String text) {
        dueError(text, text.length());
    }

    private static void dueError(String text, int error) {
        GaugeBlocks g = typed(text);
        Checks.due("the error of " + text, g.firstError(), error);
        Checks.dueIllegal("execute of " + text, g, () -> g.execute());
    }

    // ---- undo and snapshots

    @Sentence(of = "Undo and snapshots",
        says = "The state consists of everything except the buffer, the saved states and the snapshots")
    static void whatTheStateIs() {
        GaugeBlocks g = busy();
        g.keep(0);
        Checks.type(g, "r1");
        String before = Checks.stateOf(g);
        changeEverything(g);
        for (int i = 0; i < 6; i++) {
            g.undo();
        }
        Checks.dueTrue("undo restores all of it", Checks.stateOf(g).equals(before));
        Checks.due("the buffer stays", g.count(9), 2);
        changeEverything(g);
        g.keep(1);
        g.goBack(0);
        Checks.dueTrue("going back restores all of it", Checks.stateOf(g).equals(before));
        Checks.due("the buffer stays", g.clearBuffer(), 2);
        Checks.due("the saved states stay, with one more", g.count(8), 6);
        g.goBack(1);
        g.undo();
        g.undo();
        Checks.due("the snapshots stay when an earlier state is back", g.goBack(1), 4);
    }

    /** A case in which no number of the state is as at first, and six states are saved. */
    private static GaugeBlocks busy() {
        GaugeBlocks g = Checks.with(1000, 2000, 3000);
        g.wring(0, 0);
        g.wring(0, 1);
        g.wring(0, 1);
        g.takeOff(0);
        g.rest(2);
        for (int setting = 0; setting <= 3; setting++) {
            g.set(setting, 19);
        }
        return g;
    }

    /** Six calls that change each number of the state. */
    private static void changeEverything(GaugeBlocks g) {
        g.block(4000, 600);
        g.wring(0, 3);
        g.set(1, 1000);
        g.wring(0, 2);
        g.rest(1);
        g.takeOff(0);
    }

    @Sentence(of = "Undo and snapshots", says = "Each method that is marked \"Undoable\" saves the state from before "
        + "the call if it does not throw an exception, even if nothing changes")
    static void savingThoughNothingChanges() {
        GaugeBlocks g = Checks.with(1000);
        Checks.dueUndo("set to the same", g, () -> g.set(0, 10));
        Checks.dueUndo("calibrate without wear", g, () -> g.calibrate(0));
        Checks.dueUndo("make without such blocks", g, () -> g.make(0, 500));
        g.keep(0);
        Checks.dueUndo("goBack to the same", g, () -> g.goBack(0));
        Checks.type(g, "u0");
        Checks.dueUndo("execute of nothing", g, () -> g.execute());
        Checks.warmTo(g, 0, 1000);
        Checks.dueUndo("hold at 1000", g, () -> g.hold(0, 60));
        Checks.due("saved", g.count(8), 5);
        Checks.dueState("a call that throws doesn't save", g, () -> g.takeOff(0));
        Checks.due("saved", g.count(8), 5);
    }

    @Sentence(of = "Undo and snapshots",
        says = "At most 6 states are saved; when one more is saved, the oldest one is dropped")
    static void sixStates() {
        GaugeBlocks g = new GaugeBlocks();
        for (int value = 0; value <= 8; value++) {
            Checks.due("saved", g.count(8), Math.min(value, 6));
            g.set(0, 50 + value);
        }
        for (int value = 7; value >= 2; value--) {
            Checks.due("left", g.undo(), value - 2);
            Checks.due("the value before", g.setting(0), 50 + value);
        }
        Checks.dueState("the older ones are dropped", g, () -> g.undo());
    }

    @Sentence(of = "Undo and snapshots", says = "There are two snapshot slots, which are empty at first")
    static void twoSlots() {
        GaugeBlocks g = new GaugeBlocks();
        for (int slot : new int[] {0, 1}) {
            Checks.dueState("empty", g, () -> g.goBack(slot));
        }
        g.keep(1);
        Checks.dueState("still empty", g, () -> g.goBack(0));
        g.block(1000, 0);
        g.keep(0);
        Checks.due("the slot 1", g.goBack(1), 0);
        Checks.due("the slot 0", g.goBack(0), 1);
        Checks.dueIllegal("no slot 2", g, () -> g.keep(2));
        Checks.dueIllegal("no slot -1", g, () -> g.keep(-1));
    }

    // ---- exceptions and the constant

    @Sentence(of = "Exceptions", says = "A call that throws an exception changes nothing")
    static void callsThatThrow() {
        GaugeBlocks g = fullAndBusy();
        String before = Checks.picture(g);
        for (Checks.Call call : throwing(g)) {
            dueThrow(call);
        }
        Checks.dueTrue("all is as it was", Checks.picture(g).equals(before));
        Checks.dueTrue("what is saved is as it was", drained(g).equals(drained(fullAndBusy())));
        GaugeBlocks none = new GaugeBlocks();
        Checks.dueState("undo", none, () -> none.undo());
        Checks.dueState("goBack", none, () -> none.goBack(1));
        Checks.dueIllegal("execute", none, () -> none.execute());
    }

    /** 20 blocks, six saved states, both snapshots, a full buffer that is no order text, and an empty stack 2. */
    private static GaugeBlocks fullAndBusy() {
        GaugeBlocks g = Checks.full();
        g.keep(0);
        g.wring(0, 0);
        g.wring(1, 1);
        g.keep(1);
        g.wring(1, 2);
        g.hold(3, 60);
        g.hold(4, 7);
        g.set(1, 310);
        g.rest(1);
        g.set(0, 12);
        Checks.type(g, "r1;".repeat(20));
        return g;
    }

    private static List<Checks.Call> throwing(GaugeBlocks g) {
        return List.of(
            () -> g.block(499, 0), () -> g.block(500, 901), () -> g.block(500, 0), () -> g.discard(20),
            () -> g.discard(0), () -> g.calibrate(-1), () -> g.calibrate(2), () -> g.hold(20, 1), () -> g.hold(3, 61),
            () -> g.rest(0), () -> g.rest(61), () -> g.set(4, 0), () -> g.set(0, 61), () -> g.wring(3, 5),
            () -> g.wring(0, 20), () -> g.takeOff(3), () -> g.takeOff(2), () -> g.make(3, 1005), () -> g.make(2, 499),
            () -> g.make(1, 1005), () -> g.append(32), () -> g.append(98), () -> g.execute(), () -> g.keep(2),
            () -> g.goBack(-1), () -> g.blockOf(20, 0), () -> g.blockOf(0, 9), () -> g.stackOf(3, 0),
            () -> g.stackOf(0, 7), () -> g.ranked(3, 0), () -> g.ranked(0, -1), () -> g.lengths(-2), () -> g.count(10),
            () -> g.setting(4), () -> g.refusal(3, 0), () -> g.refusal(0, 20), () -> g.fewest(499, 0),
            () -> g.fewest(500, 2), () -> g.oldWay(600001, 0), () -> g.oldWay(500, 3), () -> g.nearest(499),
            () -> g.coolIn(20), () -> g.lengthIn(3, 0), () -> g.lengthIn(0, 601));
    }

    private static void dueThrow(Checks.Call call) {
        try {
            Checks.fail("a call answered " + call.run() + ", due is an exception");
        } catch (IllegalArgumentException | IllegalStateException | IndexOutOfBoundsException thrown) {
            Checks.dueTrue("the machine threw " + thrown, Checks.isThrownByTheClass(thrown));
        }
    }

    /** What the saved states and the snapshots hold, as texts. */
    private static List<String> drained(GaugeBlocks g) {
        List<String> states = new ArrayList<>();
        while (g.count(8) > 0) {
            g.undo();
            states.add(Checks.stateOf(g));
        }
        for (int slot : new int[] {0, 1}) {
            g.goBack(slot);
            states.add(Checks.stateOf(g));
        }
        return states;
    }

    @Sentence(of = "Exceptions",
        says = "If more than one exception applies to a call, the one that its throws clause lists first is thrown")
    static void theFirstExceptionOfTheClause() {
        GaugeBlocks g = fullAndBusy();
        Checks.dueIllegal("block: a length before 20 blocks", g, () -> g.block(499, 0));
        Checks.dueIllegal("block: a deviation before 20 blocks", g, () -> g.block(500, 901));
        Checks.dueIndex("hold: the block before the seconds", g, () -> g.hold(20, 0));
        Checks.dueIndex("set: the setting before the value", g, () -> g.set(4, -1));
        Checks.dueIndex("make: the stack before the length", g, () -> g.make(3, 499));
        Checks.dueIllegal("make: the length before the stack that is not empty", g, () -> g.make(0, 600001));
        Checks.dueIllegal("append: the code before 60 characters", g, () -> g.append(127));
        Checks.dueIndex("blockOf: the block before what", g, () -> g.blockOf(-1, -1));
        Checks.dueIndex("stackOf: the stack before what", g, () -> g.stackOf(-1, 7));
        Checks.dueIndex("lengthIn: the stack before the minutes", g, () -> g.lengthIn(3, 601));
    }

    @Sentence(of = "Exceptions", says = "The constants: `NONE = -1`: There is no such number")
    static void none() {
        Checks.due("NONE", GaugeBlocks.NONE, -1);
        GaugeBlocks g = Checks.with(1000);
        Checks.due("no stack", g.blockOf(0, 6), GaugeBlocks.NONE);
        Checks.due("no block", g.stackOf(0, 4), GaugeBlocks.NONE);
    }

    @Sentence(of = "Exceptions", says = "Ahead of the calls `blockOf`, `stackOf`, `ranked`, `lengths`, `count`, "
        + "`setting` the interface says: ---- queries about blocks and stacks; nothing changes")
    static void queriesChangeNothing() {
        GaugeBlocks g = fullAndBusy();
        String before = Checks.picture(g);
        for (int what = 0; what <= 9; what++) {
            g.blockOf(0, Math.min(what, 8));
            g.stackOf(1, Math.min(what, 6));
            g.ranked(what % 3, what);
            g.lengths(what - 1);
            g.count(what);
            g.setting(what % 4);
        }
        Checks.dueTrue("all is as it was", Checks.picture(g).equals(before));
        Checks.dueTrue("what is saved is as it was", drained(g).equals(drained(fullAndBusy())));
    }

    @Sentence(of = "Exceptions", says = "Ahead of the calls `refusal`, `fewest`, `oldWay`, `nearest`, `coolIn`, "
        + "`lengthIn`, `meanError` the interface says: ---- what would be; nothing changes")
    static void whatWouldBeChangesNothing() {
        GaugeBlocks g = fullAndBusy();
        String before = Checks.picture(g);
        for (int block = 0; block < 20; block++) {
            g.refusal(block % 3, block);
            g.fewest(2000 + block, block % 2);
            g.oldWay(2000 + block, block % 3);
            g.nearest(2000 + block);
            g.coolIn(block);
            g.lengthIn(block % 3, 30 * block);
            g.meanError();
        }
        Checks.dueTrue("all is as it was", Checks.picture(g).equals(before));
        Checks.dueTrue("what is saved is as it was", drained(g).equals(drained(fullAndBusy())));
    }
}
