/** The sentences of promises 15 to 17: undo and snapshots. */
final class UndoSentences {
    private static final int LOW = Integer.MIN_VALUE;
    private static final int HIGH = Integer.MAX_VALUE;

    private UndoSentences() {
    }

    // ---- promise 15: undo

    @Sentence(of = "15", says = "Restores the state that was saved last, and removes it from the saved states")
    static void undoRestores() {
        GaugeBlocks g = new GaugeBlocks();
        String[] states = new String[6];
        for (int i = 0; i < 6; i++) {
            states[i] = Checks.stateOf(g);
            g.block(1000 + i, 100 * i);
        }
        for (int i = 5; i >= 0; i--) {
            g.undo();
            Checks.dueTrue("the state before the block " + i, Checks.stateOf(g).equals(states[i]));
            Checks.due("removed", g.count(8), i);
        }
        g.rest(1);
        g.rest(2);
        g.undo();
        g.rest(4);
        g.undo();
        Checks.due("a state that was saved after an undo", g.count(2), 1);
        g.undo();
        Checks.due("the one before", g.count(2), 0);
        Checks.type(g, "xyz");
        g.rest(1);
        g.undo();
        Checks.due("the buffer stays", g.count(9), 3);
    }

    @Sentence(of = "15", says = "Returns the number of saved states that are left")
    static void undoReturns() {
        GaugeBlocks g = new GaugeBlocks();
        g.rest(1);
        Checks.due("the only one", g.undo(), 0);
        for (int i = 0; i < 8; i++) {
            g.rest(1);
        }
        for (int left = 5; left >= 0; left--) {
            Checks.due("left", g.undo(), left);
        }
        Checks.due("the two oldest were dropped", g.count(2), 2);
    }

    @Sentence(of = "15", says = "Throws `IllegalStateException` if no state is saved")
    static void undoWithoutStates() {
        GaugeBlocks g = new GaugeBlocks();
        Checks.dueState("at first", g, () -> g.undo());
        Checks.type(g, "x");
        g.keep(0);
        Checks.dueState("neither append nor keep saves one", g, () -> g.undo());
        Checks.dueIllegal("a call that throws", g, () -> g.rest(0));
        Checks.dueState("saves none", g, () -> g.undo());
        g.rest(1);
        g.undo();
        Checks.dueState("undo itself saves none", g, () -> g.undo());
        for (int i = 0; i < 7; i++) {
            g.rest(1);
        }
        for (int i = 0; i < 6; i++) {
            g.undo();
        }
        Checks.dueState("after six", g, () -> g.undo());
    }

    // ---- promise 16: keep

    @Sentence(of = "16", says = "Takes a snapshot of the state, which replaces the one in the slot")
    static void keepTakesASnapshot() {
        for (int slot : new int[] {0, 1}) {
            GaugeBlocks g = Checks.with(1000);
            g.keep(1 - slot);
            g.block(2000, 0);
            g.keep(slot);
            g.discard(0);
            g.wring(2, 0);
            g.set(1, 77);
            String state = Checks.stateOf(g);
            int saved = g.count(8);
            g.keep(slot);
            Checks.due("nothing is saved", g.count(8), saved);
            g.takeOff(2);
            g.discard(0);
            g.rest(60);
            g.set(1, 1000);
            g.goBack(slot);
            Checks.dueTrue("the last snapshot", Checks.stateOf(g).equals(state));
            Checks.due("the other slot keeps its own", g.goBack(1 - slot), 1);
            Checks.due("of the first block", g.blockOf(0, 0), 1000);
        }
    }

    @Sentence(of = "16", says = "`slot`: 0 or 1")
    static void keepEachSlot() {
        GaugeBlocks g = Checks.with(1000, 2000);
        Checks.due("slot 0", g.keep(0), 2);
        g.block(3000, 0);
        Checks.due("slot 1", g.keep(1), 3);
        Checks.due("slot 0", g.goBack(0), 2);
        Checks.due("slot 1", g.goBack(1), 3);
    }

    @Sentence(of = "16", says = "Returns the number of blocks")
    static void keepReturns() {
        Checks.due("none", new GaugeBlocks().keep(0), 0);
        Checks.due("20", Checks.full().keep(1), 20);
        GaugeBlocks g = Checks.withSixIn(0);
        Checks.due("wrung ones too", g.keep(0), 7);
    }

    @Sentence(of = "16", says = "Throws `IllegalArgumentException` if there is no such slot")
    static void keepNoSuchSlot() {
        GaugeBlocks g = Checks.with(1000);
        for (int slot : new int[] {-1, 2, LOW, HIGH}) {
            Checks.dueIllegal("keep(" + slot + ")", g, () -> g.keep(slot));
        }
        Checks.dueState("nothing is in slot 0", g, () -> g.goBack(0));
        Checks.dueState("nothing is in slot 1", g, () -> g.goBack(1));
    }

    // ---- promise 17: goBack

    @Sentence(of = "17", says = "Restores a snapshot, which stays in its slot")
    static void goBackRestores() {
        GaugeBlocks g = Checks.withSixIn(0);
        g.hold(6, 60);
        g.rest(7);
        g.set(0, 60);
        String state = Checks.stateOf(g);
        g.keep(1);
        for (int times = 0; times < 3; times++) {
            g.takeOff(0);
            g.discard(5);
            g.rest(60);
            g.set(0, 0);
            g.block(5000, 900);
            g.wring(0, 5);
            g.goBack(1);
            Checks.dueTrue("as it was kept", Checks.stateOf(g).equals(state));
        }
        GaugeBlocks none = new GaugeBlocks();
        none.keep(0);
        none.block(1000, 0);
        none.goBack(0);
        Checks.due("a snapshot without blocks", none.count(0), 0);
        Checks.type(none, "xy");
        none.goBack(0);
        Checks.due("the buffer stays", none.count(9), 2);
    }

    @Sentence(of = "17", says = "Undoable")
    static void goBackIsUndoable() {
        GaugeBlocks g = Checks.with(1000, 2000);
        g.keep(0);
        Checks.dueUndo("nothing changes", g, () -> g.goBack(0));
        g.wring(0, 1);
        g.discard(0);
        Checks.dueUndo("blocks come back", g, () -> g.goBack(0));
        for (int i = 0; i < 6; i++) {
            g.rest(1);
        }
        Checks.dueUndo("with six saved states", g, () -> g.goBack(0));
        Checks.due("the snapshot stays when undone", g.goBack(0), 2);
    }

    @Sentence(of = "17", says = "`slot`: 0 or 1")
    static void goBackEachSlot() {
        GaugeBlocks g = new GaugeBlocks();
        g.keep(1);
        g.block(1000, 0);
        g.keep(0);
        Checks.due("slot 1", g.goBack(1), 0);
        Checks.due("slot 0", g.goBack(0), 1);
    }

    @Sentence(of = "17", says = "Returns the number of blocks after the call")
    static void goBackReturns() {
        GaugeBlocks g = Checks.full();
        g.keep(0);
        g.discard(0);
        Checks.due("more than before", g.goBack(0), 20);
        GaugeBlocks none = new GaugeBlocks();
        none.keep(1);
        none.block(1000, 0);
        Checks.due("less than before", none.goBack(1), 0);
    }

    @Sentence(of = "17", says = "Throws `IllegalArgumentException` if there is no such slot")
    static void goBackNoSuchSlot() {
        GaugeBlocks g = Checks.with(1000);
        for (int slot : new int[] {-1, 2, LOW, HIGH}) {
            Checks.dueIllegal("goBack(" + slot + ") of empty ones", g, () -> g.goBack(slot));
        }
        g.keep(0);
        g.keep(1);
        for (int slot : new int[] {-1, 2, LOW, HIGH}) {
            Checks.dueIllegal("goBack(" + slot + ")", g, () -> g.goBack(slot));
        }
    }

    @Sentence(of = "17", says = "Throws `IllegalStateException` if the slot is empty")
    static void goBackEmptySlot() {
        for (int slot : new int[] {0, 1}) {
            GaugeBlocks g = Checks.with(1000);
            Checks.dueState("at first", g, () -> g.goBack(slot));
            g.keep(1 - slot);
            Checks.dueState("when the other one is not empty", g, () -> g.goBack(slot));
            g.goBack(1 - slot);
            Checks.dueState("when the other one was restored", g, () -> g.goBack(slot));
            g.undo();
            Checks.dueState("after undo", g, () -> g.goBack(slot));
        }
    }
}
