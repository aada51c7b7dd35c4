import java.util.function.ToIntFunction;

/** The boundaries of the history and the snapshot: empty, 4 states, which calls are acts (promises 2 to 15). */
public final class HistoryEdgesTest {
    private static final Due DUE = new Due();
    private static final int NONE = RiverCampaign.NONE;

    public static void main(String[] args) {
        theEmptyHistory();
        fourStates();
        theOldestIsDropped();
        undoAndGoOn();
        undoIsNoAct();
        eachActIsRecordedOnce();
        callsThatAreNoActs();
        noSnapshot();
        theSnapshotStays();
        aSnapshotInPlaceOfTheOther();
        restoreIsAnAct();
        snapshotOfTheSameState();
        numbersThatAreUsedAgain();
        whatAStateIs();
        whatAStateIsNot();
        DUE.end();
    }

    private static void theEmptyHistory() {
        DUE.sentence("Returns the number of states that are left; NONE if the history is empty.");
        RiverCampaign x = new RiverCampaign();
        DUE.due("undo", x.undo(), NONE);
        DUE.due("states", x.count(12), 0);
        x.ground(0, 1);
        DUE.due("undo one", x.undo(), 0);
        DUE.due("undo none", x.undo(), NONE);
        DUE.due("undo none again", x.undo(), NONE);
        DUE.due("states then", x.count(12), 0);
        DUE.due("it is plain", x.hex(0, 0), 0);
    }

    private static void fourStates() {
        DUE.sentence("A history of at most 4 states is kept; when one more is recorded, the oldest one is dropped");
        for (int acts = 0; acts <= 12; acts++) {
            RiverCampaign x = new RiverCampaign();
            for (int act = 1; act <= acts; act++) {
                x.base(0, act);
                DUE.due("states", x.count(12), Math.min(act, 4));
            }
            int states = Math.min(acts, 4);
            for (int left = states - 1; left >= 0; left--) {
                DUE.due("undo of " + acts, x.undo(), left);
                int base = acts - states + left;
                DUE.due("base then", x.count(14), base == 0 ? 27 : base);
            }
            DUE.due("one too many of " + acts, x.undo(), NONE);
            DUE.due("base at the end", x.count(14), acts <= 4 ? 27 : acts - 4);
        }
    }

    private static void theOldestIsDropped() {
        RiverCampaign x = new RiverCampaign();
        x.place(0, 5, 0);
        x.endTurn();
        x.ground(5, 1);
        x.fort(6, 0);
        DUE.due("four", x.count(12), 4);
        x.river(7, 0, true);
        DUE.due("four still", x.count(12), 4);
        for (int left = 3; left >= 0; left--) {
            DUE.due("undo", x.undo(), left);
        }
        DUE.due("no more", x.undo(), NONE);
        DUE.due("the first act stays", x.unit(0, 2), 0);
        DUE.due("the second does not", x.count(0), 0);
    }

    private static void undoAndGoOn() {
        DUE.sentence("undo() removes and restores the latest one.");
        RiverCampaign x = new RiverCampaign();
        int base = 27;
        int[] stack = new int[4];
        int states = 0;
        // Acts and undos in turns of many lengths, so that the places of the states go around more than once.
        for (int i = 0; i < 150; i++) {
            if (i * i % 7 < 3) {
                int undone = x.undo();
                DUE.due("undo at " + i, undone, states == 0 ? NONE : states - 1);
                if (states > 0) {
                    states--;
                    base = stack[states];
                }
            } else {
                if (states == 4) {
                    System.arraycopy(stack, 1, stack, 0, 3);
                    states = 3;
                }
                stack[states++] = base;
                int to = (base + 1) % 63;
                DUE.due("act at " + i, x.base(0, to), base);
                base = to;
            }
            DUE.due("base at " + i, x.count(14), base);
            DUE.due("states at " + i, x.count(12), states);
        }
    }

    private static void undoIsNoAct() {
        RiverCampaign x = new RiverCampaign();
        x.ground(0, 1);
        x.ground(0, 2);
        DUE.due("undo", x.undo(), 1);
        DUE.due("states", x.count(12), 1);
        DUE.due("undo again, not back", x.undo(), 0);
        DUE.due("ground", x.hex(0, 0), 0);
    }

    private static RiverCampaign middle() {
        RiverCampaign x = new RiverCampaign();
        x.place(0, 9, 30);
        x.place(1, 9, 32);
        x.type('.');
        x.keep();
        x.undo();
        x.undo();
        x.restore();
        x.undo();
        x.place(0, 9, 30);
        x.place(1, 9, 32);
        x.undo();
        return x;
    }

    private static void act(String call, ToIntFunction<RiverCampaign> act) {
        RiverCampaign x = middle();
        DUE.due("states ahead of " + call, x.count(12), 1);
        DUE.is(call + " is possible", act.applyAsInt(x) >= 0);
        DUE.due("states behind " + call, x.count(12), 2);
        DUE.due("undo of " + call, x.undo(), 1);
        DUE.due("unit 0", x.unit(0, 2), 30);
        DUE.due("its points", x.unit(0, 3), 4);
        DUE.due("unit 1", x.unit(1, 2), RiverCampaign.UNKNOWN);
        DUE.due("turns", x.count(0), 0);
        DUE.due("ground", x.hex(31, 0), 0);
        DUE.due("rivers", x.count(9), 0);
        DUE.due("forts", x.count(7), 0);
        DUE.due("base", x.count(14), 27);
        DUE.due("the state ahead of it is left", x.undo(), 0);
        DUE.due("without units", x.count(2), 0);
    }

    private static void eachActIsRecordedOnce() {
        DUE.sentence("Each call of a method that is described as an act, and returns no error and not NONE, "
            + "records the state that was before it.");
        act("ground", x -> x.ground(31, 1));
        act("river", x -> x.river(31, 0, true));
        act("fort", x -> x.fort(31, 0));
        act("base", x -> x.base(0, 31));
        act("place", x -> x.place(1, 5, 31));
        act("move", x -> x.move(0, 31));
        act("move of all points", x -> x.move(0, 34));
        act("endTurn", x -> x.endTurn());
        act("perform", x -> x.perform());
        act("restore", x -> x.restore());
        RiverCampaign x = middle();
        x.place(1, 1, 31);
        DUE.due("attack is possible", x.attack(0, 31), 0);
        DUE.due("attack is an act", x.count(12), 3);
        x.undo();
        DUE.due("back from the attack", x.unit(0, 2), 30);
        DUE.due("the other is there", x.unit(1, 2), 31);
    }

    private static void noAct(String call, ToIntFunction<RiverCampaign> other) {
        RiverCampaign x = middle();
        other.applyAsInt(x);
        DUE.due("states behind " + call, x.count(12), 1);
        DUE.due("undo behind " + call, x.undo(), 0);
        DUE.due("units behind that", x.count(2), 0);
    }

    private static void callsThatAreNoActs() {
        noAct("type", x -> x.type('x'));
        noAct("clearText", x -> x.clearText());
        noAct("keep", x -> x.keep());
        noAct("hex", x -> x.hex(30, 3));
        noAct("beside", x -> x.beside(30, 0));
        noAct("distance", x -> x.distance(30, 0));
        noAct("unit", x -> x.unit(0, 8));
        noAct("cost", x -> x.cost(0, 31));
        noAct("would", x -> x.would(0, 31, 0));
        noAct("besieged", x -> x.besieged(30));
        noAct("count", x -> x.count(10));
    }

    private static void noSnapshot() {
        DUE.sentence("There is one snapshot, empty at first.");
        RiverCampaign x = new RiverCampaign();
        DUE.due("restore nothing", x.restore(), NONE);
        x.ground(0, 1);
        DUE.due("restore nothing again", x.restore(), NONE);
        DUE.due("states", x.count(12), 1);
        DUE.due("ground", x.hex(0, 0), 1);
        x.undo();
        DUE.due("and again", x.restore(), NONE);
        DUE.due("keep", x.keep(), 0);
        DUE.due("restore", x.restore(), 0);
    }

    private static void theSnapshotStays() {
        DUE.sentence("Restores the state of the snapshot, which stays. This is an act.");
        RiverCampaign x = new RiverCampaign();
        x.ground(0, 1);
        x.keep();
        for (int i = 0; i < 6; i++) {
            x.ground(0, 2);
            x.place(0, 5, 1);
            DUE.due("restore", x.restore(), 0);
            DUE.due("ground", x.hex(0, 0), 1);
            DUE.due("no unit", x.unit(0, 0), RiverCampaign.UNKNOWN);
        }
        x.undo();
        x.undo();
        x.undo();
        DUE.due("states", x.undo(), 0);
        DUE.due("undo does not take it away", x.restore(), 0);
        DUE.due("ground again", x.hex(0, 0), 1);
    }

    private static void aSnapshotInPlaceOfTheOther() {
        DUE.sentence("Takes a snapshot of the state, in place of the one that was.");
        RiverCampaign x = new RiverCampaign();
        DUE.due("keep at 0", x.keep(), 0);
        x.endTurn();
        DUE.due("keep at 1", x.keep(), 1);
        x.endTurn();
        DUE.due("restore 1", x.restore(), 1);
        DUE.due("turns", x.count(0), 1);
        DUE.due("side", x.count(1), 1);
        x.undo();
        x.undo();
        x.undo();
        DUE.due("undo too often", x.undo(), NONE);
        DUE.due("at 0", x.count(0), 0);
        DUE.due("restore 1 still", x.restore(), 1);
        x.undo();
        DUE.due("keep at 0 again", x.keep(), 0);
        x.endTurn();
        DUE.due("restore 0", x.restore(), 0);
    }

    private static void restoreIsAnAct() {
        DUE.sentence("Returns how many turns have ended then; NONE if there is no snapshot.");
        RiverCampaign x = new RiverCampaign();
        x.keep();
        for (int i = 1; i <= 6; i++) {
            x.restore();
            DUE.due("states", x.count(12), Math.min(i, 4));
        }
        x.endTurn();
        DUE.due("restore", x.restore(), 0);
        DUE.due("undo it", x.undo(), 3);
        DUE.due("turns", x.count(0), 1);
    }

    private static void snapshotOfTheSameState() {
        RiverCampaign x = new RiverCampaign();
        x.place(0, 5, 0);
        x.keep();
        DUE.due("restore what is so already", x.restore(), 0);
        DUE.due("is an act all the same", x.count(12), 2);
        x.move(0, 1);
        DUE.due("what is kept does not move on", x.restore(), 0);
        DUE.due("hex", x.unit(0, 2), 0);
        x.move(0, 1);
        DUE.due("what is restored is not the snapshot itself", x.restore(), 0);
        DUE.due("hex again", x.unit(0, 2), 0);
    }

    private static void numbersThatAreUsedAgain() {
        RiverCampaign x = new RiverCampaign();
        x.place(0, 5, 0);
        x.keep();
        x.undo();
        DUE.due("the same number", x.place(1, 7, 62), 0);
        DUE.due("its side", x.unit(0, 0), 1);
        DUE.due("its strength", x.unit(0, 1), 7);
        x.restore();
        DUE.due("the side of the other", x.unit(0, 0), 0);
        DUE.due("the strength of the other", x.unit(0, 1), 5);
        DUE.due("the hex of the other", x.unit(0, 2), 0);
        x.undo();
        DUE.due("its side again", x.unit(0, 0), 1);
        DUE.due("its hex again", x.hex(62, 3), 0);
        DUE.due("nobody on the other hex", x.hex(0, 3), NONE);
    }

    private static RiverCampaign rich() {
        RiverCampaign x = new RiverCampaign();
        x.base(0, 62);
        x.base(1, 20);
        x.place(0, 9, 30);
        x.place(1, 1, 31);
        x.place(1, 8, 23);
        x.place(0, 4, 0);
        x.ground(12, 2);
        x.river(12, 1, true);
        x.fort(31, 1);
        x.endTurn();
        x.move(1, 32);
        x.attack(2, 31);
        x.endTurn();
        x.move(0, 31);
        x.attack(0, 32);
        return x;
    }

    private static int[] toldOf(RiverCampaign x) {
        int[] told = new int[16 * 6 + 63 * 3 + 16];
        int next = 0;
        for (int unit = 0; unit < 16; unit++) {
            for (int what : new int[] {0, 1, 2, 3, 4, 7}) {
                told[next++] = x.unit(unit, what);
            }
        }
        for (int hex = 0; hex < 63; hex++) {
            for (int what = 0; what <= 2; what++) {
                told[next++] = x.hex(hex, what);
            }
        }
        for (int what = 0; what <= 15; what++) {
            told[next++] = what == 12 ? 0 : x.count(what);
        }
        return told;
    }

    private static void changeAll(RiverCampaign x) {
        x.base(0, 1);
        x.base(1, 2);
        x.ground(12, 1);
        x.river(12, 1, false);
        x.river(40, 1, true);
        x.fort(31, 2);
        x.fort(50, 0);
        x.endTurn();
        x.place(1, 3, 44);
        x.move(2, 24);
        x.endTurn();
        x.move(3, 1);
    }

    private static void whatAStateIs() {
        DUE.sentence("A state is everything but the text, the history and the snapshot.");
        int[] due = toldOf(rich());
        RiverCampaign x = rich();
        x.keep();
        changeAll(x);
        x.restore();
        compare("restored", toldOf(x), due);
        RiverCampaign y = rich();
        y.keep();
        changeAll(y);
        y.restore();
        y.fort(31, 2);
        y.undo();
        compare("undone", toldOf(y), due);
        // Four changes at most can be undone one by one, but a text makes many of them one.
        RiverCampaign z = rich();
        for (char character : "0>g4;.;2>g3;.;0>h4;3>b1".toCharArray()) {
            z.type(character);
        }
        DUE.is("the orders are done", z.perform() > 0);
        z.undo();
        z.clearText();
        compare("undone at once", toldOf(z), due);
    }

    private static void compare(String what, int[] told, int[] due) {
        for (int i = 0; i < due.length; i++) {
            DUE.due(what + ", number " + i, told[i], due[i]);
        }
    }

    private static void whatAStateIsNot() {
        RiverCampaign x = new RiverCampaign();
        x.type('.');
        x.keep();
        x.ground(0, 1);
        x.type(';');
        x.type('.');
        x.undo();
        DUE.due("the text at an undo", x.count(13), 3);
        x.ground(0, 1);
        x.restore();
        DUE.due("the text at a restore", x.count(13), 3);
        DUE.due("the history at a restore", x.count(12), 2);
        DUE.due("the orders are those of now", x.perform(), 2);
        x.clearText();
        x.undo();
        DUE.due("the empty text at an undo", x.count(13), 0);
    }
}
