/** The boundaries of units and turns: 16 units, strengths, units that are gone, points, attacks (promises 6 to 9, 19). */
public final class UnitEdgesTest {
    private static final Due DUE = new Due();
    private static final int UNKNOWN = RiverCampaign.UNKNOWN;
    private static final int BAD_VALUE = RiverCampaign.BAD_VALUE;
    private static final int FULL = RiverCampaign.FULL;
    private static final int NOT_POSSIBLE = RiverCampaign.NOT_POSSIBLE;
    private static final int NONE = RiverCampaign.NONE;
    private static final int[] FAR_OUT = {Integer.MIN_VALUE, -1000, 1000, Integer.MAX_VALUE};

    public static void main(String[] args) {
        sixteenUnits();
        sixteenEver();
        roomAgainByHistory();
        sidesOfPlace();
        strengthsOfPlace();
        takenHexes();
        unitNumbersOfEachCall();
        unitsThatAreGone();
        hexesOfThoseThatAreGone();
        fortsUnderUnits();
        fortsThatArePassed();
        fortsOfThoseThatAreGone();
        whoseTurn();
        pointsOfTheOtherSide();
        unitsThatArePlacedLate();
        oneAttackInATurn();
        anyOrder();
        asOftenAsItHasPoints();
        moveToItsOwnHex();
        whomItMayAttack();
        whatOfUnits();
        reachOfUnits();
        countsOfUnits();
        DUE.end();
    }

    private static RiverCampaign with16Units() {
        RiverCampaign x = new RiverCampaign();
        for (int unit = 0; unit < 16; unit++) {
            DUE.due("place " + unit, x.place(unit % 2, 1 + unit % 9, 4 * unit), unit);
        }
        return x;
    }

    private static void sixteenUnits() {
        DUE.sentence("There are at most 16 units ever, numbered from 0.");
        RiverCampaign x = with16Units();
        DUE.due("place 16", x.place(0, 1, 1), FULL);
        DUE.due("place 16 of the other side", x.place(1, 9, 62), FULL);
        DUE.due("units so far", x.count(2), 16);
        for (int unit = 0; unit < 16; unit++) {
            DUE.due("side of " + unit, x.unit(unit, 0), unit % 2);
            DUE.due("strength of " + unit, x.unit(unit, 1), 1 + unit % 9);
            DUE.due("hex of " + unit, x.unit(unit, 2), 4 * unit);
            DUE.due("unit there", x.hex(4 * unit, 3), unit);
        }
        DUE.due("unit 16", x.unit(16, 0), UNKNOWN);
        DUE.due("states", x.count(12), 4);
        x.endTurn();
        DUE.due("the last one moves", x.move(15, 61), 3);
    }

    private static void sixteenEver() {
        DUE.sentence("FULL if there have been 16");
        RiverCampaign x = new RiverCampaign();
        for (int unit = 0; unit < 14; unit++) {
            x.place(0, 9, unit);
        }
        x.place(1, 1, 22);
        DUE.due("14 is gone", x.attack(13, 22), 0);
        DUE.due("place 15, not 14", x.place(1, 1, 13), 15);
        DUE.due("15 is gone", x.attack(12, 13), 0);
        DUE.due("place 16", x.place(1, 1, 40), FULL);
        DUE.due("units so far", x.count(2), 16);
        DUE.due("units of 0", x.count(3), 14);
        DUE.due("units of 1", x.count(4), 0);
    }

    private static void roomAgainByHistory() {
        RiverCampaign x = with16Units();
        DUE.due("undo", x.undo(), 3);
        DUE.due("15 is unknown", x.unit(15, 0), UNKNOWN);
        DUE.due("its hex", x.hex(60, 3), NONE);
        DUE.due("keep", x.keep(), 0);
        DUE.due("place 15 again", x.place(0, 2, 61), 15);
        DUE.due("place 16", x.place(0, 2, 62), FULL);
        DUE.due("restore", x.restore(), 0);
        DUE.due("place 15 once more", x.place(1, 3, 62), 15);
        DUE.due("its side", x.unit(15, 0), 1);
        DUE.due("place 16 then", x.place(0, 2, 1), FULL);
    }

    private static void sidesOfPlace() {
        DUE.sentence("Returns its number; UNKNOWN (side or hex); BAD_VALUE; FULL");
        RiverCampaign x = new RiverCampaign();
        DUE.due("side -1", x.place(-1, 5, 31), UNKNOWN);
        DUE.due("side 2", x.place(2, 5, 31), UNKNOWN);
        for (int side : FAR_OUT) {
            DUE.due("side " + side, x.place(side, 5, 31), UNKNOWN);
        }
        DUE.due("side 0", x.place(0, 5, 31), 0);
        DUE.due("side 1", x.place(1, 5, 32), 1);
        DUE.due("side of 0", x.unit(0, 0), 0);
        DUE.due("side of 1", x.unit(1, 0), 1);
    }

    private static void strengthsOfPlace() {
        DUE.sentence("A unit belongs to a side, has a strength (1 to 9), stands on a hex, or is gone");
        RiverCampaign x = new RiverCampaign();
        DUE.due("strength 0", x.place(0, 0, 31), BAD_VALUE);
        DUE.due("strength -1", x.place(0, -1, 31), BAD_VALUE);
        DUE.due("strength 10", x.place(0, 10, 31), BAD_VALUE);
        for (int strength : FAR_OUT) {
            DUE.due("strength " + strength, x.place(0, strength, 31), BAD_VALUE);
        }
        DUE.due("units", x.count(2), 0);
        DUE.due("strength 1", x.place(0, 1, 0), 0);
        DUE.due("strength 9", x.place(0, 9, 8), 1);
        DUE.due("1", x.unit(0, 1), 1);
        DUE.due("9", x.unit(1, 1), 9);
    }

    private static void takenHexes() {
        DUE.sentence("no two units stand on one hex");
        RiverCampaign x = new RiverCampaign();
        x.place(0, 5, 31);
        x.place(1, 5, 29);
        DUE.due("place on its own", x.place(0, 5, 31), NOT_POSSIBLE);
        DUE.due("place on the enemy", x.place(1, 5, 31), NOT_POSSIBLE);
        x.place(0, 5, 32);
        DUE.due("move onto its own", x.move(0, 32), NOT_POSSIBLE);
        DUE.due("move onto the enemy", x.move(0, 29), NOT_POSSIBLE);
        DUE.due("move off", x.move(0, 23), 3);
        DUE.due("place where it stood", x.place(1, 5, 31), 3);
        DUE.due("place where it stands", x.place(1, 5, 23), NOT_POSSIBLE);
    }

    private static void unitNumbersOfEachCall() {
        DUE.sentence("`UNKNOWN = -1`: There is no such hex, side or unit (or it is gone).");
        RiverCampaign x = new RiverCampaign();
        unknownUnit(x, 0);
        x.place(0, 5, 30);
        x.place(0, 5, 31);
        x.place(1, 5, 32);
        unknownUnit(x, -1);
        unknownUnit(x, 3);
        unknownUnit(x, 15);
        unknownUnit(x, 16);
        for (int unit : FAR_OUT) {
            unknownUnit(x, unit);
        }
        DUE.due("the first one", x.cost(0, 30), 0);
        DUE.due("the last one", x.cost(2, 32), 0);
    }

    private static void unknownUnit(RiverCampaign x, int unit) {
        DUE.due("move " + unit, x.move(unit, 23), UNKNOWN);
        DUE.due("attack " + unit, x.attack(unit, 32), UNKNOWN);
        DUE.due("cost " + unit, x.cost(unit, 23), UNKNOWN);
        for (int what = 0; what <= 9; what++) {
            DUE.due("unit " + unit, x.unit(unit, what), UNKNOWN);
        }
        for (int what = 0; what <= 3; what++) {
            DUE.due("would " + unit, x.would(unit, 32, what), UNKNOWN);
        }
    }

    private static RiverCampaign withOneGone() {
        RiverCampaign x = new RiverCampaign();
        x.place(0, 9, 31);
        x.place(1, 1, 32);
        x.place(1, 9, 24);
        DUE.due("is gone", x.attack(0, 32), 0);
        return x;
    }

    private static void unitsThatAreGone() {
        DUE.sentence("A unit whose strength would be 0 or less is gone.");
        RiverCampaign x = withOneGone();
        unknownUnit(x, 1);
        x.endTurn();
        unknownUnit(x, 1);
        DUE.due("the next one is there", x.unit(2, 1), 9);
        DUE.due("units of 1", x.count(4), 1);
        DUE.due("strength of 1", x.count(6), 9);
        DUE.due("units so far", x.count(2), 3);
        x.endTurn();
        x.endTurn();
        unknownUnit(x, 1);
        DUE.due("undo", x.undo(), 3);
        x.undo();
        x.undo();
        DUE.due("undo the attack", x.undo(), 0);
        DUE.due("is there again", x.unit(1, 1), 1);
        DUE.due("on its hex", x.hex(32, 3), 1);
    }

    private static void hexesOfThoseThatAreGone() {
        RiverCampaign x = withOneGone();
        DUE.due("nobody where it attacked from", x.hex(31, 3), NONE);
        DUE.due("it on the hex of the one that is gone", x.hex(32, 3), 0);
        DUE.due("no zone of the one that is gone", x.hex(41, 5), 0);
        DUE.due("no sight of the one that is gone", x.hex(40, 7), 0);
        DUE.due("goes back", x.move(0, 31), 3);
        DUE.due("place there", x.place(1, 3, 32), 3);
        RiverCampaign y = new RiverCampaign();
        y.place(0, 1, 31);
        y.place(1, 9, 32);
        DUE.due("loses all", y.attack(0, 32), 9);
        DUE.due("nobody there", y.hex(31, 3), NONE);
        DUE.due("no zone", y.hex(30, 4), 0);
        DUE.due("sees nothing", y.count(10), 0);
        DUE.due("place there", y.place(0, 3, 31), 2);
    }

    private static void fortsUnderUnits() {
        DUE.sentence("A fort on which a unit stands belongs to the side of the unit, also when that has gone on");
        for (int side = 0; side <= 1; side++) {
            RiverCampaign x = new RiverCampaign();
            x.place(side, 5, 31);
            DUE.due("build it for the other", x.fort(31, 1 - side), 1);
            DUE.due("it belongs to the unit's side", x.hex(31, 2), side);
            x.fort(40, 1 - side);
            DUE.due("one that is not its own", x.hex(40, 2), 1 - side);
            x.place(side, 5, 40);
            DUE.due("place on it", x.hex(40, 2), side);
            x.fort(32, 1 - side);
            if (side == 1) {
                x.endTurn();
            }
            DUE.due("move to it", x.move(0, 32), 3);
            DUE.due("belongs to it", x.hex(32, 2), side);
            DUE.due("the one that was left stays", x.hex(31, 2), side);
            x.move(0, 33);
            DUE.due("this one stays, too", x.hex(32, 2), side);
        }
    }

    private static void fortsThatArePassed() {
        DUE.sentence("(one that only passes over it changes nothing)");
        RiverCampaign x = new RiverCampaign();
        x.place(0, 5, 0);
        x.fort(1, 1);
        x.fort(9, 1);
        x.fort(3, 1);
        DUE.due("over a fort to a fort", x.move(0, 3), 1);
        DUE.due("the one where it ends", x.hex(3, 2), 0);
        DUE.due("1 was passed", x.hex(1, 2), 1);
        DUE.due("9 was not", x.hex(9, 2), 1);
        DUE.due("no steps: its hex again", x.move(0, 3), NONE);
    }

    private static void fortsOfThoseThatAreGone() {
        DUE.sentence("If the one that was attacked is gone, the one that attacked goes to its hex.");
        RiverCampaign x = new RiverCampaign();
        x.place(0, 9, 31);
        x.place(1, 1, 32);
        x.fort(32, 1);
        x.attack(0, 32);
        DUE.due("the fort is taken", x.hex(32, 2), 0);
        RiverCampaign y = new RiverCampaign();
        y.place(0, 1, 31);
        y.place(1, 9, 32);
        y.fort(31, 0);
        y.fort(32, 1);
        DUE.due("the one that attacks is gone", y.attack(0, 32), 9);
        DUE.due("its fort stays its side's", y.hex(31, 2), 0);
        DUE.due("so does the other", y.hex(32, 2), 1);
    }

    private static void whoseTurn() {
        DUE.sentence("Then it is the turn of the other side.");
        RiverCampaign x = new RiverCampaign();
        x.place(0, 5, 0);
        x.place(1, 5, 62);
        for (int turn = 0; turn < 6; turn++) {
            int side = turn % 2;
            DUE.due("side", x.count(1), side);
            DUE.due("turns", x.count(0), turn);
            DUE.due("the other side's unit", x.move(1 - side, side == 0 ? 61 : 1), NOT_POSSIBLE);
            DUE.due("its own hex", x.move(1 - side, x.unit(1 - side, 2)), NOT_POSSIBLE);
            DUE.due("its own unit", x.move(side, x.unit(side, 2)), NONE);
            DUE.due("end", x.endTurn(), 0);
            x.fort(0, 0);
            x.fort(62, 1);
        }
    }

    private static void pointsOfTheOtherSide() {
        DUE.sentence("(units of the other side keep what they have)");
        RiverCampaign x = new RiverCampaign();
        x.place(0, 9, 30);
        x.place(1, 9, 31);
        x.base(1, 33);
        x.move(0, 22);
        DUE.due("attack", x.attack(0, 31), 9);
        DUE.due("points", x.unit(0, 3), 3);
        DUE.due("attack spent", x.unit(0, 4), 0);
        x.endTurn();
        DUE.due("points in the other turn", x.unit(0, 3), 3);
        DUE.due("attack in the other turn", x.unit(0, 4), 0);
        DUE.due("points of the other", x.unit(1, 3), 4);
        x.move(1, 32);
        x.move(1, 31);
        x.attack(1, 22);
        DUE.due("its points", x.unit(1, 3), 2);
        x.endTurn();
        DUE.sentence("At the beginning of a turn each unit of the side has 4 points, and may attack once");
        DUE.due("points again", x.unit(0, 3), 4);
        DUE.due("attack again", x.unit(0, 4), 1);
        DUE.due("points of the other stay", x.unit(1, 3), 2);
        DUE.due("attack of the other stays", x.unit(1, 4), 0);
        x.endTurn();
        DUE.due("no more than 4 points", x.unit(0, 3), 4);
        DUE.due("no more than 4 points of the other", x.unit(1, 3), 4);
        DUE.due("attack of the other again", x.unit(1, 4), 1);
    }

    private static void unitsThatArePlacedLate() {
        DUE.sentence("(The side 0 has so ahead of its first turn; a unit that is placed has so, too.)");
        RiverCampaign x = new RiverCampaign();
        for (int unit = 0; unit < 4; unit++) {
            x.place(unit % 2, 5, unit < 2 ? unit : 50 + 4 * unit);
            DUE.due("points of " + unit, x.unit(unit, 3), 4);
            DUE.due("attack of " + unit, x.unit(unit, 4), 1);
            if (unit == 1) {
                DUE.due("the first one attacks at once", x.attack(0, 1), 5);
                x.endTurn();
            }
        }
        DUE.due("the last one moves at once", x.move(3, 61), 3);
        x.endTurn();
        DUE.due("one that was placed in the other turn moves", x.move(2, 57), 3);
    }

    private static void oneAttackInATurn() {
        DUE.sentence("NOT_POSSIBLE if it is not its side's turn, it has attacked in this turn, no enemy stands there");
        RiverCampaign x = new RiverCampaign();
        x.place(0, 9, 31);
        x.place(1, 9, 32);
        x.place(1, 9, 30);
        DUE.due("has its attack", x.unit(0, 4), 1);
        DUE.due("first", x.attack(0, 32), 9);
        DUE.due("has it no more", x.unit(0, 4), 0);
        DUE.due("second", x.attack(0, 32), NOT_POSSIBLE);
        DUE.due("another", x.attack(0, 30), NOT_POSSIBLE);
        DUE.due("what it would bring", x.would(0, 30, 1), 9);
        DUE.due("undo", x.undo(), 3);
        DUE.due("has it again", x.unit(0, 4), 1);
        DUE.due("another then", x.attack(0, 30), 9);
        x.endTurn();
        DUE.due("attacked, but has its own attack", x.unit(2, 4), 1);
        DUE.due("not its turn", x.attack(0, 32), NOT_POSSIBLE);
        x.endTurn();
        DUE.is("next turn", x.attack(0, 32) > 0);
    }

    private static void anyOrder() {
        DUE.sentence("It may move and attack in any order, and move as often as it has points.");
        RiverCampaign x = new RiverCampaign();
        x.place(0, 9, 30);
        x.place(1, 9, 32);
        DUE.due("move", x.move(0, 31), 3);
        DUE.due("attack", x.attack(0, 32), 9);
        DUE.due("move behind the attack", x.move(0, 30), 2);
        DUE.due("and on", x.move(0, 29), 1);
        RiverCampaign y = new RiverCampaign();
        y.place(0, 9, 31);
        y.place(1, 1, 32);
        y.place(1, 1, 34);
        for (int i = 0; i < 4; i++) {
            y.move(0, i % 2 == 0 ? 30 : 31);
        }
        DUE.due("no points", y.unit(0, 3), 0);
        DUE.due("attack without points", y.attack(0, 32), 0);
        DUE.due("goes there without points", y.unit(0, 2), 32);
        DUE.due("no points still", y.unit(0, 3), 0);
    }

    private static void asOftenAsItHasPoints() {
        DUE.sentence("Returns the points that it has left");
        RiverCampaign x = new RiverCampaign();
        x.place(0, 5, 27);
        for (int points = 3; points >= 0; points--) {
            DUE.due("move", x.move(0, 31 - points), points);
            DUE.due("points", x.unit(0, 3), points);
        }
        DUE.due("no points", x.move(0, 32), NOT_POSSIBLE);
        RiverCampaign y = new RiverCampaign();
        y.place(0, 5, 27);
        DUE.due("5 at once", y.move(0, 32), NOT_POSSIBLE);
        DUE.due("4 at once", y.move(0, 31), 0);
        y.undo();
        DUE.due("3 at once", y.move(0, 30), 1);
        DUE.due("2 more", y.move(0, 32), NOT_POSSIBLE);
        DUE.due("1 more", y.move(0, 31), 0);
    }

    private static void moveToItsOwnHex() {
        DUE.sentence("or it does not stand on the hex and cannot reach it; NONE if it stands there.");
        RiverCampaign x = new RiverCampaign();
        x.place(0, 5, 0);
        x.place(1, 5, 1);
        x.place(1, 5, 9);
        DUE.due("its own hex, shut in", x.move(0, 0), NONE);
        DUE.due("another", x.move(0, 18), NOT_POSSIBLE);
        x.endTurn();
        DUE.due("its own hex, out of turn", x.move(0, 0), NOT_POSSIBLE);
    }

    private static void whomItMayAttack() {
        DUE.sentence("no enemy stands there, or the hex is not beside its own one.");
        RiverCampaign x = new RiverCampaign();
        x.place(0, 9, 31);
        x.place(0, 9, 32);
        x.place(1, 9, 33);
        DUE.due("its own hex", x.attack(0, 31), NOT_POSSIBLE);
        DUE.due("its own side", x.attack(0, 32), NOT_POSSIBLE);
        DUE.due("nobody", x.attack(0, 30), NOT_POSSIBLE);
        DUE.due("two steps off", x.attack(0, 33), NOT_POSSIBLE);
        DUE.due("beside", x.attack(1, 33), 9);
        int[] around = {32, 23, 22, 30, 40, 41};
        for (int hex : around) {
            RiverCampaign y = new RiverCampaign();
            y.place(0, 9, 31);
            y.place(1, 9, hex);
            DUE.due("on " + hex, y.attack(0, hex), 9);
        }
    }

    private static void whatOfUnits() {
        DUE.sentence("9 for whether the enemy sees it (1, otherwise 0)");
        RiverCampaign x = new RiverCampaign();
        x.place(1, 7, 35);
        DUE.due("what -1", x.unit(0, -1), BAD_VALUE);
        DUE.due("what 10", x.unit(0, 10), BAD_VALUE);
        for (int what : FAR_OUT) {
            DUE.due("what " + what, x.unit(0, what), BAD_VALUE);
        }
        x.place(0, 5, 33);
        DUE.due("seen from 2", x.unit(0, 9), 1);
        x.move(1, 32);
        DUE.due("not seen from 3", x.unit(0, 9), 0);
        x.fort(34, 0);
        DUE.due("seen from a fort from 1", x.unit(0, 9), 1);
        DUE.due("its own fort does not count", x.unit(1, 9), 0);
        DUE.sentence("4 for whether it has its attack yet, whosever turn it is (1, otherwise 0)");
        DUE.due("of the side in turn", x.unit(1, 4), 1);
        DUE.due("of the other side", x.unit(0, 4), 1);
        DUE.sentence("6 for how many steps it is to the nearest source (NONE if it is not supplied)");
        DUE.due("on its base", x.unit(0, 6), 0);
        DUE.due("five steps from its base, as the fort is in the zone", x.unit(1, 6), 5);
        x.fort(30, 0);
        DUE.due("two steps from the other fort", x.unit(1, 6), 2);
        x.base(0, 33);
        DUE.due("one step from the base", x.unit(1, 6), 1);
        x.base(0, 0);
        x.fort(30, 2);
        DUE.due("no source in 6 steps", x.unit(1, 6), NONE);
    }

    private static void reachOfUnits() {
        DUE.sentence("8 for how many hexes it can reach (its own one is none of them)");
        RiverCampaign x = new RiverCampaign();
        x.place(0, 5, 31);
        // Rings of 6, 12, 18 and 24, less what lies above and below the board: 5 hexes each.
        int[] reach = {0, 6, 18, 36, 50};
        for (int points = 4; points >= 0; points--) {
            DUE.due("with " + points, x.unit(0, 8), reach[points]);
            x.move(0, points % 2 == 0 ? 32 : 31);
        }
        RiverCampaign y = new RiverCampaign();
        y.place(0, 5, 31);
        int[] around = {32, 23, 22, 30, 40, 41};
        for (int hex : around) {
            y.place(1, 5, hex);
        }
        DUE.due("shut in", y.unit(0, 8), 0);
        RiverCampaign z = new RiverCampaign();
        z.place(0, 5, 0);
        DUE.due("in the corner", z.unit(0, 8), 18);
        z.place(0, 5, 1);
        DUE.due("less its own unit's hex", z.unit(0, 8), 17);
        for (int hex = 0; hex < 63; hex++) {
            RiverCampaign one = new RiverCampaign();
            one.place(1, 5, hex);
            int near = 0;
            for (int other = 0; other < 63; other++) {
                near += one.distance(hex, other) <= 4 ? 1 : 0;
            }
            DUE.due("from " + hex, one.unit(0, 8), near - 1);
        }
    }

    private static void countsOfUnits() {
        DUE.sentence("2 for units so far, 3 and 4 for units of the side 0, 1, 5 and 6 for their strength together");
        RiverCampaign x = new RiverCampaign();
        for (int unit = 0; unit < 16; unit++) {
            x.place(1, 9, 4 * unit);
            DUE.due("units so far", x.count(2), unit + 1);
            DUE.due("units of 0", x.count(3), 0);
            DUE.due("units of 1", x.count(4), unit + 1);
            DUE.due("strength of 0", x.count(5), 0);
            DUE.due("strength of 1", x.count(6), 9 * unit + 9);
        }
        DUE.due("what -1", x.count(-1), BAD_VALUE);
        DUE.due("what 16", x.count(16), BAD_VALUE);
        for (int what : FAR_OUT) {
            DUE.due("what " + what, x.count(what), BAD_VALUE);
        }
        DUE.due("what 15", x.count(15), 35);
        DUE.due("what 0", x.count(0), 0);
    }
}
