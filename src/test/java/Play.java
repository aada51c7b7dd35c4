import java.util.function.IntUnaryOperator;
import java.util.function.ToIntFunction;

/** What several tests do with an object. */
final class Play {
    static final int UNKNOWN = RiverCampaign.UNKNOWN;
    static final int BAD_VALUE = RiverCampaign.BAD_VALUE;
    static final int FULL = RiverCampaign.FULL;
    static final int NOT_POSSIBLE = RiverCampaign.NOT_POSSIBLE;
    static final int NONE = RiverCampaign.NONE;

    private static final int[] FAR_OUT = {Integer.MIN_VALUE, -1000, -5, -2, -1, 1000, Integer.MAX_VALUE};

    private Play() {
    }

    /** A new object with units: the side, the strength and the hex of each. */
    static RiverCampaign units(int... rows) {
        RiverCampaign x = new RiverCampaign();
        for (int i = 0; i + 2 < rows.length; i += 3) {
            x.place(rows[i], rows[i + 1], rows[i + 2]);
        }
        return x;
    }

    static void write(RiverCampaign x, String text) {
        x.clearText();
        for (int i = 0; i < text.length(); i++) {
            x.type(text.charAt(i));
        }
    }

    static int perform(RiverCampaign x, String text) {
        write(x, text);
        return x.perform();
    }

    static void endTurns(RiverCampaign x, int turns) {
        for (int turn = 0; turn < turns; turn++) {
            x.endTurn();
        }
    }

    /** The answer is the error below and above the range, and never in it. */
    static void range(Walk w, String what, int from, int to, int error, IntUnaryOperator answer) {
        for (int value = from; value <= to; value++) {
            w.is(what + " " + value + " is in the range", answer.applyAsInt(value) != error);
        }
        w.due(what + " " + (from - 1), answer.applyAsInt(from - 1), error);
        w.due(what + " " + (to + 1), answer.applyAsInt(to + 1), error);
        for (int value : FAR_OUT) {
            w.due(what + " " + value, answer.applyAsInt(value), error);
        }
    }

    static void hexes(Walk w, IntUnaryOperator answer) {
        range(w, "hex", 0, 62, UNKNOWN, answer);
    }

    /** Units 0 and 1 are there and 2 is gone; the answer is that of a call for a unit. */
    static void units(Walk w, IntUnaryOperator answer) {
        range(w, "unit", 0, 1, UNKNOWN, answer);
        w.due("a unit that is gone", answer.applyAsInt(2), UNKNOWN);
        w.due("a unit that has not been", answer.applyAsInt(15), UNKNOWN);
        w.due("a unit that can't be", answer.applyAsInt(16), UNKNOWN);
    }

    /** The units 0 on 31 and 1 on 32 are enemies, and 2, of the side 1, is gone. */
    static RiverCampaign oneIsGone() {
        RiverCampaign x = units(0, 9, 31, 1, 9, 32, 1, 1, 22);
        x.attack(0, 22);
        x.move(0, 31);
        x.endTurn();
        x.endTurn();
        return x;
    }

    /** The call is recorded as one act, and undone as one. */
    static void act(Walk w, RiverCampaign x, ToIntFunction<RiverCampaign> call, ToIntFunction<RiverCampaign> told) {
        int states = x.count(12);
        int before = told.applyAsInt(x);
        w.is("no error and not NONE", call.applyAsInt(x) >= 0);
        int after = told.applyAsInt(x);
        w.due("states", x.count(12), Math.min(4, states + 1));
        w.due("undo", x.undo(), Math.min(4, states + 1) - 1);
        w.due("what was told before", told.applyAsInt(x), before);
        w.is("the act changed it", after != before);
    }
}
