import java.util.Arrays;
import java.util.List;
import java.util.function.Consumer;
import java.util.function.Supplier;
import java.util.function.ToIntFunction;
import java.util.stream.IntStream;

/**
 * A call that returns an error or NONE changes nothing: each one is refused in a state in which something could
 * change, and all that the object tells then is compared with what one tells on which it was not called. Also the
 * order of the checks, where several errors apply.
 */
public final class RefusedTest {
    private static final Due DUE = new Due();
    private static final int UNKNOWN = RiverCampaign.UNKNOWN;
    private static final int BAD_VALUE = RiverCampaign.BAD_VALUE;
    private static final int FULL = RiverCampaign.FULL;
    private static final int NOT_POSSIBLE = RiverCampaign.NOT_POSSIBLE;
    private static final int NONE = RiverCampaign.NONE;

    /** What is done ahead of looking, so that the text, the history and the snapshot are looked at, too. */
    private static final List<Consumer<RiverCampaign>> AHEAD = List.of(
        x -> { },
        x -> undo(x, 1),
        x -> undo(x, 2),
        x -> undo(x, 3),
        x -> undo(x, 4),
        RiverCampaign::restore,
        RiverCampaign::perform,
        x -> {
            x.type('.');
            x.perform();
        });

    public static void main(String[] args) {
        DUE.sentence("A call that returns an error or NONE changes nothing.");
        board();
        places();
        moves();
        attacks();
        attackSpent();
        orders();
        texts();
        histories();
        turns();
        told();
        DUE.sentence("Where several errors can apply, the order of the @return line is the order of the checks.");
        orderOfTheBoard();
        orderOfUnits();
        orderOfTold();
        DUE.sentence("NONE is no error; it is returned only if no error applies.");
        noneOnlyWithoutErrors();
        DUE.end();
    }

    private static void undo(RiverCampaign x, int times) {
        for (int i = 0; i < times; i++) {
            x.undo();
        }
    }

    /** The turn of the side 1; four states, a snapshot, a text without a fault, a unit that is gone. */
    private static RiverCampaign busy() {
        RiverCampaign x = new RiverCampaign();
        x.place(0, 6, 27);
        x.place(0, 8, 30);
        x.place(1, 1, 31);
        x.place(1, 6, 33);
        x.place(1, 5, 44);
        x.fort(31, 1);
        x.fort(40, 1);
        x.ground(32, 1);
        x.attack(1, 31);
        x.river(31, 0, true);
        x.keep();
        x.endTurn();
        x.move(4, 43);
        x.base(1, 44);
        write(x, "3>f4;3!e4");
        return x;
    }

    private static void write(RiverCampaign x, String text) {
        for (int i = 0; i < text.length(); i++) {
            x.type(text.charAt(i));
        }
    }

    /** Besides the call's answer, compares all that is told then. */
    private static void refuse(Supplier<RiverCampaign> making, String call, ToIntFunction<RiverCampaign> calling,
        int due) {
        for (int part = 0; part < 4; part++) {
            for (Consumer<RiverCampaign> ahead : AHEAD) {
                RiverCampaign without = making.get();
                RiverCampaign with = making.get();
                DUE.due(call, calling.applyAsInt(with), due);
                ahead.accept(without);
                ahead.accept(with);
                DUE.is("nothing changed by " + call, Arrays.equals(tell(with, part), tell(without, part)));
            }
        }
    }

    /** In parts, as an object promises no more than 512 calls. */
    private static int[] tell(RiverCampaign x, int part) {
        IntStream.Builder told = IntStream.builder();
        for (int what = 0; what <= 15; what++) {
            told.add(x.count(what));
        }
        for (int hex = 0; hex < 63; hex++) {
            tellHex(x, part, hex, told);
        }
        for (int unit = 0; unit < 16 && part == 2; unit++) {
            for (int what = 0; what <= 9; what++) {
                told.add(x.unit(unit, what));
            }
        }
        return told.build().toArray();
    }

    private static void tellHex(RiverCampaign x, int part, int hex, IntStream.Builder told) {
        for (int what = 4 * part; what <= 4 * part + 3 && part < 2; what++) {
            told.add(x.hex(hex, what));
        }
        if (part == 2) {
            told.add(x.besieged(hex));
        }
        for (int unit = 0; unit < 5 && part == 3; unit++) {
            told.add(x.cost(unit, hex));
        }
    }

    private static void refuse(String call, ToIntFunction<RiverCampaign> calling, int due) {
        refuse(RefusedTest::busy, call, calling, due);
    }

    private static void board() {
        refuse("ground of -1", x -> x.ground(-1, 1), UNKNOWN);
        refuse("ground of 63", x -> x.ground(63, 1), UNKNOWN);
        refuse("ground 3", x -> x.ground(5, 3), BAD_VALUE);
        refuse("ground -1", x -> x.ground(5, -1), BAD_VALUE);
        refuse("the same ground", x -> x.ground(32, 1), NONE);
        refuse("river at 63", x -> x.river(63, 2, true), UNKNOWN);
        refuse("river in 6", x -> x.river(31, 6, true), BAD_VALUE);
        refuse("river in -1", x -> x.river(31, -1, true), BAD_VALUE);
        refuse("river to no hex", x -> x.river(8, 0, true), NOT_POSSIBLE);
        refuse("no river to no hex", x -> x.river(8, 0, false), NOT_POSSIBLE);
        refuse("the same river", x -> x.river(31, 0, true), NONE);
        refuse("the same river from the other", x -> x.river(32, 3, true), NONE);
        refuse("no river again", x -> x.river(31, 1, false), NONE);
        refuse("fort on -1", x -> x.fort(-1, 0), UNKNOWN);
        refuse("fort on 63", x -> x.fort(63, 2), UNKNOWN);
        refuse("fort of 3", x -> x.fort(5, 3), BAD_VALUE);
        refuse("fort of -1", x -> x.fort(40, -1), BAD_VALUE);
        refuse("fort on a fort", x -> x.fort(40, 0), NONE);
        refuse("the same fort", x -> x.fort(40, 1), NONE);
        refuse("no fort again", x -> x.fort(5, 2), NONE);
        refuse("base of 2", x -> x.base(2, 5), UNKNOWN);
        refuse("base of -1", x -> x.base(-1, 5), UNKNOWN);
        refuse("base on 63", x -> x.base(0, 63), UNKNOWN);
        refuse("the same base", x -> x.base(1, 44), NONE);
    }

    private static RiverCampaign full() {
        RiverCampaign x = busy();
        for (int unit = 5; unit < 16; unit++) {
            x.place(unit % 2, 3, unit);
        }
        return x;
    }

    private static void places() {
        refuse("place of 2", x -> x.place(2, 5, 5), UNKNOWN);
        refuse("place of -1", x -> x.place(-1, 5, 5), UNKNOWN);
        refuse("place on 63", x -> x.place(0, 5, 63), UNKNOWN);
        refuse("place on -1", x -> x.place(0, 5, -1), UNKNOWN);
        refuse("place 0", x -> x.place(0, 0, 5), BAD_VALUE);
        refuse("place 10", x -> x.place(0, 10, 5), BAD_VALUE);
        refuse("place on its own", x -> x.place(0, 5, 27), NOT_POSSIBLE);
        refuse("place on an enemy", x -> x.place(1, 5, 27), NOT_POSSIBLE);
        refuse(RefusedTest::full, "place 16", x -> x.place(0, 5, 40), FULL);
        refuse(RefusedTest::full, "place 16 on another", x -> x.place(0, 5, 27), FULL);
    }

    private static void moves() {
        refuse("move 5", x -> x.move(5, 5), UNKNOWN);
        refuse("move -1", x -> x.move(-1, 5), UNKNOWN);
        refuse("move one that is gone", x -> x.move(2, 32), UNKNOWN);
        refuse("move to 63", x -> x.move(3, 63), UNKNOWN);
        refuse("move to -1", x -> x.move(3, -1), UNKNOWN);
        refuse("move out of turn", x -> x.move(0, 28), NOT_POSSIBLE);
        refuse("move to its own hex out of turn", x -> x.move(0, 27), NOT_POSSIBLE);
        refuse("move too far", x -> x.move(3, 0), NOT_POSSIBLE);
        refuse("move with too few points", x -> x.move(4, 39), NOT_POSSIBLE);
        refuse("move onto an enemy", x -> x.move(3, 31), NOT_POSSIBLE);
        refuse("move onto its own", x -> x.move(3, 43), NOT_POSSIBLE);
        refuse("move to its own hex", x -> x.move(3, 33), NONE);
    }

    private static RiverCampaign close() {
        RiverCampaign x = busy();
        x.place(1, 9, 32);
        x.place(1, 9, 22);
        return x;
    }

    private static void attacks() {
        refuse(RefusedTest::close, "attack by 7", x -> x.attack(7, 31), UNKNOWN);
        refuse(RefusedTest::close, "attack by -1", x -> x.attack(-1, 31), UNKNOWN);
        refuse(RefusedTest::close, "attack by one that is gone", x -> x.attack(2, 31), UNKNOWN);
        refuse(RefusedTest::close, "attack 63", x -> x.attack(5, 63), UNKNOWN);
        refuse(RefusedTest::close, "attack -1", x -> x.attack(5, -1), UNKNOWN);
        refuse(RefusedTest::close, "attack out of turn", x -> x.attack(1, 32), NOT_POSSIBLE);
        refuse(RefusedTest::close, "attack nobody", x -> x.attack(5, 41), NOT_POSSIBLE);
        refuse(RefusedTest::close, "attack its own", x -> x.attack(5, 33), NOT_POSSIBLE);
        refuse(RefusedTest::close, "attack itself", x -> x.attack(5, 32), NOT_POSSIBLE);
        refuse(RefusedTest::close, "attack from afar", x -> x.attack(3, 31), NOT_POSSIBLE);
    }

    private static RiverCampaign spent() {
        RiverCampaign x = close();
        x.attack(6, 31);
        return x;
    }

    private static void attackSpent() {
        refuse(RefusedTest::spent, "attack again", x -> x.attack(6, 31), NOT_POSSIBLE);
    }

    private static RiverCampaign busyWith(String text) {
        RiverCampaign x = busy();
        x.clearText();
        write(x, text);
        return x;
    }

    private static void orders() {
        refuse(() -> busyWith("3>h4;3!e4"), "a move ahead of one that fails", RiverCampaign::perform, NOT_POSSIBLE);
        refuse(() -> busyWith("3>f4;5>a1"), "a move ahead of an unknown unit", RiverCampaign::perform, UNKNOWN);
        refuse(() -> busyWith(".;.;.;1>e5;3>a1"), "turns ahead of an error", RiverCampaign::perform, NOT_POSSIBLE);
        refuse(() -> busyWith("3>h4;x"), "a fault behind an order", RiverCampaign::perform, -105);
        refuse(() -> busyWith("3>h4;"), "an end too early", RiverCampaign::perform, -105);
        refuse(() -> busyWith(""), "the empty text", RiverCampaign::perform, -100);
        refuse(() -> busyWith("0"), "half an order", RiverCampaign::perform, -101);
    }

    private static RiverCampaign fullText() {
        RiverCampaign x = busy();
        x.clearText();
        write(x, ".;".repeat(28) + ".;.;");
        return x;
    }

    private static void texts() {
        refuse(RefusedTest::fullText, "type 61", x -> x.type('.'), FULL);
        refuse(RefusedTest::fullText, "type any 61", x -> x.type('x'), FULL);
        refuse(RefusedTest::fullText, "a full text with a fault", RiverCampaign::perform, -160);
    }

    private static RiverCampaign withoutHistory() {
        RiverCampaign x = new RiverCampaign();
        x.place(0, 5, 27);
        x.ground(4, 1);
        x.keep();
        x.undo();
        x.undo();
        write(x, ".;.");
        return x;
    }

    private static RiverCampaign withoutSnapshot() {
        RiverCampaign x = new RiverCampaign();
        x.place(0, 5, 27);
        x.ground(4, 1);
        x.endTurn();
        write(x, ".;.");
        return x;
    }

    private static void histories() {
        refuse(RefusedTest::withoutHistory, "undo nothing", RiverCampaign::undo, NONE);
        refuse(RefusedTest::withoutSnapshot, "restore nothing", RiverCampaign::restore, NONE);
        refuse(RiverCampaign::new, "undo at first", RiverCampaign::undo, NONE);
        refuse(RiverCampaign::new, "restore at first", RiverCampaign::restore, NONE);
        refuse(RiverCampaign::new, "perform at first", RiverCampaign::perform, -100);
        refuse(RiverCampaign::new, "clear nothing", RiverCampaign::clearText, 0);
    }

    /** With units that starve: the side 1 is in turn. */
    private static RiverCampaign lastTurn() {
        RiverCampaign x = new RiverCampaign();
        write(x, ".;.;.;.;.;.;.;.;.;.;.;.;.;.;.;.;.;.;.;.;.;.;.;.;.;.;.");
        for (int i = 0; i < 37; i++) {
            x.perform();
        }
        x.place(1, 5, 0);
        x.place(0, 5, 8);
        x.move(0, 1);
        return x;
    }

    private static void turns() {
        refuse(RefusedTest::lastTurn, "the turn 1000", RiverCampaign::endTurn, FULL);
        refuse(RefusedTest::lastTurn, "the turn 1000 by orders", RiverCampaign::perform, FULL);
    }

    private static void told() {
        refuse("hex -1", x -> x.hex(-1, 0), UNKNOWN);
        refuse("hex 9", x -> x.hex(0, 9), BAD_VALUE);
        refuse("beside 6", x -> x.beside(0, 6), BAD_VALUE);
        refuse("beside none", x -> x.beside(0, 3), NONE);
        refuse("distance 63", x -> x.distance(0, 63), UNKNOWN);
        refuse("unit 5", x -> x.unit(5, 8), UNKNOWN);
        refuse("unit 10", x -> x.unit(3, 10), BAD_VALUE);
        refuse("cost of one that is gone", x -> x.cost(2, 5), UNKNOWN);
        refuse("cost too far", x -> x.cost(3, 0), NONE);
        refuse("would 4", x -> x.would(3, 31, 4), BAD_VALUE);
        refuse("would from afar", x -> x.would(3, 31, 0), NOT_POSSIBLE);
        refuse("besieged 63", x -> x.besieged(63), UNKNOWN);
        refuse("besieged none", x -> x.besieged(5), NONE);
        refuse("count 16", x -> x.count(16), BAD_VALUE);
        refuse("what is told", x -> x.unit(0, 8) + x.unit(0, 5) + x.cost(4, 34) > -9 ? 7 : 8, 7);
        refuse(RefusedTest::close, "what would be", x -> x.would(5, 31, 3) >= 0 ? 7 : 8, 7);
    }

    private static void orderOfTheBoard() {
        RiverCampaign x = busy();
        DUE.due("ground: UNKNOWN, BAD_VALUE", x.ground(63, 3), UNKNOWN);
        DUE.due("river: UNKNOWN, BAD_VALUE", x.river(-1, 6, true), UNKNOWN);
        DUE.due("river: BAD_VALUE, no hex there", x.river(0, -1, false), BAD_VALUE);
        DUE.due("fort: UNKNOWN, BAD_VALUE", x.fort(63, 3), UNKNOWN);
        DUE.due("fort: BAD_VALUE where one is already", x.fort(40, 3), BAD_VALUE);
        DUE.due("base: UNKNOWN twice", x.base(2, 63), UNKNOWN);
    }

    private static void orderOfUnits() {
        RiverCampaign x = full();
        DUE.due("place: UNKNOWN side, BAD_VALUE, FULL, NOT_POSSIBLE", x.place(2, 0, 27), UNKNOWN);
        DUE.due("place: UNKNOWN hex, BAD_VALUE, FULL", x.place(0, 10, 63), UNKNOWN);
        DUE.due("place: UNKNOWN hex, FULL", x.place(0, 5, -1), UNKNOWN);
        DUE.due("place: BAD_VALUE, FULL, NOT_POSSIBLE", x.place(0, 10, 27), BAD_VALUE);
        DUE.due("place: BAD_VALUE, FULL", x.place(0, 0, 62), BAD_VALUE);
        DUE.due("place: FULL, NOT_POSSIBLE", x.place(0, 9, 27), FULL);
        RiverCampaign y = busy();
        DUE.due("place: BAD_VALUE, NOT_POSSIBLE", y.place(0, 10, 27), BAD_VALUE);
        DUE.due("place: UNKNOWN, NOT_POSSIBLE", y.place(2, 5, 27), UNKNOWN);
        DUE.due("move: UNKNOWN hex, NOT_POSSIBLE", y.move(0, 63), UNKNOWN);
        DUE.due("move: UNKNOWN unit, NOT_POSSIBLE", y.move(2, 27), UNKNOWN);
        DUE.due("move: NOT_POSSIBLE, NONE", y.move(0, 27), NOT_POSSIBLE);
        DUE.due("attack: UNKNOWN hex, NOT_POSSIBLE", y.attack(0, -1), UNKNOWN);
        DUE.due("attack: UNKNOWN unit, NOT_POSSIBLE", y.attack(2, 5), UNKNOWN);
    }

    private static void orderOfTold() {
        RiverCampaign x = busy();
        DUE.due("hex: UNKNOWN, BAD_VALUE", x.hex(63, 9), UNKNOWN);
        DUE.due("beside: UNKNOWN, BAD_VALUE", x.beside(-1, 6), UNKNOWN);
        DUE.due("beside: BAD_VALUE, NONE", x.beside(0, -1), BAD_VALUE);
        DUE.due("unit: UNKNOWN, BAD_VALUE", x.unit(5, 10), UNKNOWN);
        DUE.due("unit that is gone: UNKNOWN, BAD_VALUE", x.unit(2, -1), UNKNOWN);
        DUE.due("would: UNKNOWN unit, BAD_VALUE, NOT_POSSIBLE", x.would(2, 5, 4), UNKNOWN);
        DUE.due("would: UNKNOWN hex, BAD_VALUE", x.would(3, 63, -1), UNKNOWN);
        DUE.due("would: BAD_VALUE, NOT_POSSIBLE", x.would(3, 5, 4), BAD_VALUE);
        DUE.due("would: BAD_VALUE below, NOT_POSSIBLE", x.would(3, 5, -1), BAD_VALUE);
    }

    private static void noneOnlyWithoutErrors() {
        RiverCampaign x = busy();
        DUE.due("no river to no hex", x.river(0, 3, false), NOT_POSSIBLE);
        DUE.due("cost of no hex", x.cost(3, 63), UNKNOWN);
        DUE.due("cost of a unit that is gone", x.cost(2, 31), UNKNOWN);
        DUE.due("besieged, no hex", x.besieged(-1), UNKNOWN);
        DUE.due("steps of a unit that is gone", x.unit(2, 6), UNKNOWN);
        DUE.due("its own hex out of turn", x.move(1, 31), NOT_POSSIBLE);
    }
}
