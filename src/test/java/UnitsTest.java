/** Promises 6 to 9 and 19 to 21: units, ways, supply, fights and the end of a turn. */
public final class UnitsTest {
    private static final Due DUE = new Due();

    public static void main(String[] args) {
        place();
        placeUntilFull();
        move();
        moveErrors();
        waysAndGround();
        waysAndZones();
        waysAndUnits();
        attackErrors();
        attackWins();
        attackLoses();
        attackTakesTheHex();
        powers();
        powerOverRivers();
        wouldErrors();
        endTurn();
        starving();
        starvingOfTwo();
        turnsEnd();
        unitNumbers();
        supplySteps();
        supplyOfTheFirstHex();
        supplyAndZones();
        costErrors();
        DUE.end();
    }

    private static void place() {
        RiverCampaign x = new RiverCampaign();
        DUE.due("place side 2", x.place(2, 0, 0), RiverCampaign.UNKNOWN);
        DUE.due("place side -1", x.place(-1, 1, 0), RiverCampaign.UNKNOWN);
        DUE.due("place hex 63", x.place(0, 0, 63), RiverCampaign.UNKNOWN);
        DUE.due("place hex -1", x.place(0, 1, -1), RiverCampaign.UNKNOWN);
        DUE.due("place strength 0", x.place(0, 0, 0), RiverCampaign.BAD_VALUE);
        DUE.due("place strength 10", x.place(0, 10, 0), RiverCampaign.BAD_VALUE);
        DUE.due("place 0", x.place(1, 9, 62), 0);
        DUE.due("place on 0", x.place(0, 1, 62), RiverCampaign.NOT_POSSIBLE);
        DUE.due("place bad before not possible", x.place(0, 10, 62), RiverCampaign.BAD_VALUE);
        DUE.due("place 1", x.place(0, 1, 0), 1);
        DUE.due("place is an act", x.count(12), 2);
        DUE.due("side", x.unit(0, 0), 1);
        DUE.due("strength", x.unit(0, 1), 9);
        DUE.due("hex", x.unit(0, 2), 62);
        DUE.due("points", x.unit(0, 3), 4);
        DUE.due("attack", x.unit(0, 4), 1);
        DUE.due("points of 1", x.unit(1, 3), 4);
        DUE.due("units", x.count(2), 2);
        x.undo();
        DUE.due("unit undone", x.unit(1, 0), RiverCampaign.UNKNOWN);
        DUE.due("hex undone", x.hex(0, 3), RiverCampaign.NONE);
        DUE.due("number used again", x.place(1, 2, 3), 1);
    }

    private static void placeUntilFull() {
        RiverCampaign x = new RiverCampaign();
        for (int unit = 0; unit < 15; unit++) {
            DUE.due("place " + unit, x.place(0, 9, unit), unit);
        }
        DUE.due("place the weak one", x.place(1, 1, 23), 15);
        DUE.due("place too many", x.place(1, 1, 40), RiverCampaign.FULL);
        DUE.due("place bad before full", x.place(1, 0, 40), RiverCampaign.BAD_VALUE);
        DUE.due("place full before not possible", x.place(1, 1, 0), RiverCampaign.FULL);
        DUE.due("attack the weak one", x.attack(14, 23), 0);
        DUE.due("place in the room of one that is gone", x.place(1, 1, 40), RiverCampaign.FULL);
        DUE.due("units so far", x.count(2), 16);
        DUE.due("units of 0", x.count(3), 15);
        DUE.due("units of 1", x.count(4), 0);
    }

    private static void move() {
        RiverCampaign x = new RiverCampaign();
        x.place(0, 5, 27);
        DUE.due("move 1", x.move(0, 28), 3);
        DUE.due("move 2 more", x.move(0, 30), 1);
        DUE.due("move is an act", x.count(12), 3);
        DUE.due("where it stands", x.unit(0, 2), 30);
        DUE.due("unit on its hex", x.hex(30, 3), 0);
        DUE.due("unit off its hex", x.hex(27, 3), RiverCampaign.NONE);
        DUE.due("move too far", x.move(0, 32), RiverCampaign.NOT_POSSIBLE);
        DUE.due("move the last one", x.move(0, 31), 0);
        DUE.due("move without points", x.move(0, 32), RiverCampaign.NOT_POSSIBLE);
        DUE.due("move without points to its hex", x.move(0, 31), RiverCampaign.NONE);
        x.endTurn();
        DUE.due("points stay", x.unit(0, 3), 0);
        x.endTurn();
        DUE.due("points again", x.unit(0, 3), 4);
    }

    private static void moveErrors() {
        RiverCampaign x = new RiverCampaign();
        x.place(0, 5, 27);
        x.place(1, 5, 35);
        DUE.due("move unit 2", x.move(2, 0), RiverCampaign.UNKNOWN);
        DUE.due("move unit -1", x.move(-1, 0), RiverCampaign.UNKNOWN);
        DUE.due("move unit 16", x.move(16, 0), RiverCampaign.UNKNOWN);
        DUE.due("move hex 63", x.move(0, 63), RiverCampaign.UNKNOWN);
        DUE.due("move hex -1 out of turn", x.move(1, -1), RiverCampaign.UNKNOWN);
        DUE.due("move out of turn", x.move(1, 34), RiverCampaign.NOT_POSSIBLE);
        DUE.due("move out of turn to its own hex", x.move(1, 35), RiverCampaign.NOT_POSSIBLE);
        DUE.due("move to its own hex", x.move(0, 27), RiverCampaign.NONE);
        DUE.due("move to an enemy", x.move(0, 35), RiverCampaign.NOT_POSSIBLE);
        DUE.due("move errors record nothing", x.count(12), 2);
        x.endTurn();
        DUE.due("move in the other turn", x.move(1, 34), 3);
        DUE.due("move of the first in the other turn", x.move(0, 28), RiverCampaign.NOT_POSSIBLE);
    }

    private static void waysAndGround() {
        RiverCampaign x = new RiverCampaign();
        x.place(0, 5, 0);
        DUE.due("plain", x.cost(0, 1), 1);
        x.ground(1, 1);
        DUE.due("forest", x.cost(0, 1), 2);
        x.ground(1, 2);
        DUE.due("hill", x.cost(0, 1), 2);
        x.river(0, 0, true);
        DUE.due("hill over a river", x.cost(0, 1), 3);
        x.ground(1, 0);
        DUE.due("plain over a river", x.cost(0, 1), 2);
        DUE.due("three steps and a river", x.cost(0, 3), 4);
        DUE.due("four steps and a river", x.cost(0, 4), RiverCampaign.NONE);
        x.ground(1, 1);
        DUE.due("around: down, up right", x.cost(0, 1), 3);
        DUE.due("around", x.cost(0, 2), 3);
        x.ground(9, 1);
        x.river(0, 5, true);
        DUE.due("3 to the other", x.cost(0, 9), 3);
        DUE.due("4 behind it", x.cost(0, 18), 4);
        DUE.due("5 is too much", x.cost(0, 3), RiverCampaign.NONE);
        DUE.due("what it reaches", x.unit(0, 8), 6);
        RiverCampaign y = new RiverCampaign();
        y.place(0, 5, 1);
        y.place(1, 5, 2);
        y.place(1, 5, 10);
        DUE.due("the hexes 0 and 9 alone", y.unit(0, 8), 2);
    }

    private static void waysAndZones() {
        RiverCampaign x = new RiverCampaign();
        x.place(0, 5, 27);
        x.place(1, 5, 30);
        DUE.due("into the zone", x.cost(0, 29), 2);
        DUE.due("not through the zone", x.cost(0, 22), RiverCampaign.NONE);
        DUE.due("around the zone", x.cost(0, 21), 3);
        DUE.due("move into the zone", x.move(0, 29), 2);
        DUE.due("out of the zone where it begins", x.cost(0, 22), RiverCampaign.NONE);
        DUE.due("from zone to zone", x.cost(0, 21), 1);
        DUE.due("from zone to free", x.cost(0, 20), 1);
        DUE.due("from zone to free and on", x.cost(0, 11), 2);
        x.endTurn();
        DUE.due("enemy out of turn", x.cost(0, 20), 1);
    }

    private static void waysAndUnits() {
        RiverCampaign x = new RiverCampaign();
        x.place(0, 5, 0);
        x.place(0, 5, 1);
        x.place(0, 5, 9);
        DUE.due("not onto its own", x.cost(0, 1), RiverCampaign.NONE);
        DUE.due("move onto its own", x.move(0, 1), RiverCampaign.NOT_POSSIBLE);
        DUE.due("over its own", x.cost(0, 2), 2);
        x.undo();
        x.undo();
        x.place(1, 5, 1);
        DUE.due("not onto an enemy", x.cost(0, 1), RiverCampaign.NONE);
        DUE.due("not over an enemy", x.cost(0, 2), RiverCampaign.NONE);
        x.place(1, 5, 9);
        DUE.due("shut in", x.unit(0, 8), 0);
        DUE.due("shut in, its own hex", x.cost(0, 0), 0);
    }

    private static void attackErrors() {
        RiverCampaign x = new RiverCampaign();
        x.place(0, 5, 27);
        x.place(0, 5, 28);
        x.place(1, 5, 29);
        DUE.due("attack unit 3", x.attack(3, 29), RiverCampaign.UNKNOWN);
        DUE.due("attack unit -1", x.attack(-1, 29), RiverCampaign.UNKNOWN);
        DUE.due("attack hex 63", x.attack(1, 63), RiverCampaign.UNKNOWN);
        DUE.due("attack hex -1 out of turn", x.attack(2, -1), RiverCampaign.UNKNOWN);
        DUE.due("attack out of turn", x.attack(2, 28), RiverCampaign.NOT_POSSIBLE);
        DUE.due("attack its own", x.attack(1, 27), RiverCampaign.NOT_POSSIBLE);
        DUE.due("attack itself", x.attack(1, 28), RiverCampaign.NOT_POSSIBLE);
        DUE.due("attack nobody", x.attack(1, 20), RiverCampaign.NOT_POSSIBLE);
        DUE.due("attack from afar", x.attack(0, 29), RiverCampaign.NOT_POSSIBLE);
        DUE.due("attack errors record nothing", x.count(12), 3);
        DUE.due("attack a tie", x.attack(1, 29), 5);
        DUE.due("attack twice", x.attack(1, 29), RiverCampaign.NOT_POSSIBLE);
        DUE.due("attack is an act", x.count(12), 4);
        DUE.due("attack is spent", x.unit(1, 4), 0);
        x.endTurn();
        DUE.due("attack stays spent", x.unit(1, 4), 0);
        DUE.due("attack in the other turn", x.attack(2, 28), 3);
        x.endTurn();
        DUE.due("attack again", x.unit(1, 4), 1);
    }

    private static void attackWins() {
        RiverCampaign x = new RiverCampaign();
        x.base(1, 31);
        x.place(0, 6, 28);
        x.place(1, 5, 29);
        // 12 against 10: the difference 2 brings 1 + 0.
        DUE.due("would: power", x.would(0, 29, 0), 12);
        DUE.due("would: defence", x.would(0, 29, 1), 10);
        DUE.due("would: attacker", x.would(0, 29, 2), 6);
        DUE.due("would: defender", x.would(0, 29, 3), 4);
        DUE.due("would changes nothing", x.unit(1, 1), 5);
        DUE.due("attack", x.attack(0, 29), 4);
        DUE.due("strength of the winner", x.unit(0, 1), 6);
        DUE.due("strength of the loser", x.unit(1, 1), 4);
        DUE.due("winner stays", x.unit(0, 2), 28);
        DUE.due("points are not needed", x.unit(0, 3), 4);
        // 12 against 8: the difference 4 brings 1 + 1.
        x.endTurn();
        x.endTurn();
        DUE.due("attack by 4", x.attack(0, 29), 2);
    }

    private static void attackLoses() {
        RiverCampaign x = new RiverCampaign();
        x.base(1, 31);
        x.place(0, 5, 28);
        x.place(1, 6, 29);
        x.fort(29, 1);
        // 10 against 24: the difference 14 brings 1 + 3.
        DUE.due("would: attacker", x.would(0, 29, 2), 1);
        DUE.due("attack a fort", x.attack(0, 29), 6);
        DUE.due("strength of the loser", x.unit(0, 1), 1);
        x.endTurn();
        x.endTurn();
        DUE.due("would: attacker gone", x.would(0, 29, 2), 0);
        DUE.due("attack and be gone", x.attack(0, 29), 6);
        DUE.due("is gone", x.unit(0, 1), RiverCampaign.UNKNOWN);
        DUE.due("its hex is empty", x.hex(28, 3), RiverCampaign.NONE);
        DUE.due("units of 0", x.count(3), 0);
        DUE.due("strength of 0", x.count(5), 0);
        DUE.due("move it", x.move(0, 27), RiverCampaign.UNKNOWN);
        DUE.due("attack by it", x.attack(0, 29), RiverCampaign.UNKNOWN);
        DUE.due("cost of it", x.cost(0, 28), RiverCampaign.UNKNOWN);
        DUE.due("would of it", x.would(0, 29, 0), RiverCampaign.UNKNOWN);
        DUE.due("undo", x.undo(), 3);
        DUE.due("is there again", x.unit(0, 1), 1);
    }

    private static void attackTakesTheHex() {
        RiverCampaign x = new RiverCampaign();
        x.place(0, 9, 28);
        x.place(1, 1, 29);
        x.fort(29, 0);
        x.fort(28, 0);
        DUE.due("fort of 1", x.hex(29, 2), 1);
        DUE.due("attack", x.attack(0, 29), 0);
        DUE.due("goes there", x.unit(0, 2), 29);
        DUE.due("stands there", x.hex(29, 3), 0);
        DUE.due("left its hex", x.hex(28, 3), RiverCampaign.NONE);
        DUE.due("takes the fort", x.hex(29, 2), 0);
        DUE.due("keeps the fort behind", x.hex(28, 2), 0);
        DUE.due("keeps its points", x.unit(0, 3), 4);
        DUE.due("moves on", x.move(0, 31), 2);
        DUE.due("the other is gone", x.unit(1, 0), RiverCampaign.UNKNOWN);
        DUE.due("fort stays", x.hex(29, 2), 0);
    }

    private static void powers() {
        RiverCampaign x = new RiverCampaign();
        x.base(1, 31);
        x.place(0, 7, 28);
        x.place(1, 3, 29);
        DUE.due("defence on plain", x.would(0, 29, 1), 6);
        x.ground(29, 1);
        DUE.due("defence in forest", x.would(0, 29, 1), 8);
        x.ground(29, 2);
        DUE.due("defence on a hill", x.would(0, 29, 1), 8);
        x.base(1, 62);
        DUE.due("defence without supply", x.would(0, 29, 1), 4);
        x.ground(29, 0);
        DUE.due("defence without supply on plain", x.would(0, 29, 1), 3);
        x.ground(29, 2);
        x.fort(29, 1);
        DUE.due("defence on a fort on a hill", x.would(0, 29, 1), 14);
        DUE.due("attack supplied", x.would(0, 29, 0), 14);
        x.base(0, 62);
        DUE.due("attack without supply", x.would(0, 29, 0), 7);
        DUE.due("attack out of turn", x.would(1, 28, 0), 6);
        x.ground(28, 2);
        DUE.due("attack from a hill", x.would(0, 29, 0), 7);
        DUE.due("attack from a fort", x.would(1, 28, 0), 6);
        DUE.due("defence of 7 on a hill without supply", x.would(1, 28, 1), 8);
    }

    private static void powerOverRivers() {
        RiverCampaign x = new RiverCampaign();
        x.base(1, 62);
        x.place(0, 7, 28);
        x.place(1, 3, 29);
        x.river(28, 1, true);
        DUE.due("river elsewhere", x.would(0, 29, 0), 14);
        x.river(29, 3, true);
        DUE.due("river", x.would(0, 29, 0), 7);
        DUE.due("river does not help the defence", x.would(0, 29, 1), 6 / 2);
        x.base(0, 62);
        DUE.due("river without supply", x.would(0, 29, 0), 3);
        DUE.due("a tie is lost by the attacker", x.attack(0, 29), 3);
        DUE.due("by 1", x.unit(0, 1), 6);
        DUE.due("river the other way", x.would(1, 28, 0), 1);
    }

    private static void wouldErrors() {
        RiverCampaign x = new RiverCampaign();
        x.place(0, 5, 27);
        x.place(0, 5, 28);
        x.place(1, 5, 29);
        DUE.due("would unknown before bad", x.would(3, 29, 4), RiverCampaign.UNKNOWN);
        DUE.due("would unit -1", x.would(-1, 29, 0), RiverCampaign.UNKNOWN);
        DUE.due("would hex 63", x.would(1, 63, 4), RiverCampaign.UNKNOWN);
        DUE.due("would hex -1", x.would(1, -1, 0), RiverCampaign.UNKNOWN);
        DUE.due("would bad before not possible", x.would(1, 20, 4), RiverCampaign.BAD_VALUE);
        DUE.due("would what -1", x.would(1, 29, -1), RiverCampaign.BAD_VALUE);
        DUE.due("would nobody", x.would(1, 20, 0), RiverCampaign.NOT_POSSIBLE);
        DUE.due("would its own", x.would(1, 27, 0), RiverCampaign.NOT_POSSIBLE);
        DUE.due("would from afar", x.would(0, 29, 0), RiverCampaign.NOT_POSSIBLE);
        x.attack(1, 29);
        DUE.due("would after the attack", x.would(1, 29, 0), 2 * x.unit(1, 1));
    }

    private static void endTurn() {
        RiverCampaign x = new RiverCampaign();
        x.place(0, 5, 27);
        x.place(1, 5, 35);
        x.move(0, 28);
        DUE.due("end of the turn of 0", x.endTurn(), 0);
        DUE.due("turns", x.count(0), 1);
        DUE.due("side", x.count(1), 1);
        DUE.due("points of 0 stay", x.unit(0, 3), 3);
        x.move(1, 34);
        DUE.due("end of the turn of 1", x.endTurn(), 0);
        DUE.due("turns", x.count(0), 2);
        DUE.due("side", x.count(1), 0);
        DUE.due("points of 0", x.unit(0, 3), 4);
        DUE.due("points of 1 stay", x.unit(1, 3), 3);
        DUE.due("end of a turn is an act", x.count(12), 4);
        x.undo();
        DUE.due("turns back", x.count(0), 1);
        DUE.due("points back", x.unit(0, 3), 3);
        DUE.due("the move ahead of it stays", x.unit(1, 2), 34);
    }

    private static void starving() {
        RiverCampaign x = new RiverCampaign();
        x.place(0, 3, 35);
        x.place(1, 1, 0);
        x.place(1, 1, 8);
        x.base(1, 8);
        DUE.due("end 1", x.endTurn(), 0);
        DUE.due("starved 1", x.unit(0, 7), 1);
        DUE.due("only in its own turn", x.unit(1, 7), 0);
        DUE.due("strength", x.unit(0, 1), 3);
        DUE.due("end 2", x.endTurn(), 0);
        DUE.due("the other starved 1", x.unit(1, 7), 1);
        DUE.due("the supplied one did not", x.unit(2, 7), 0);
        DUE.due("still 1", x.unit(0, 7), 1);
        DUE.due("end 3", x.endTurn(), 0);
        DUE.due("starved 2", x.unit(0, 7), 2);
        DUE.due("strength less 1", x.unit(0, 1), 2);
        DUE.due("end 4: one is gone", x.endTurn(), 1);
        DUE.due("gone", x.unit(1, 0), RiverCampaign.UNKNOWN);
        DUE.due("its hex is empty", x.hex(0, 3), RiverCampaign.NONE);
        DUE.due("end 5", x.endTurn(), 0);
        DUE.due("starved 3", x.unit(0, 7), 3);
        DUE.due("strength less 1 again", x.unit(0, 1), 1);
        x.undo();
        DUE.due("starved 2 again", x.unit(0, 7), 2);
        x.endTurn();
        x.fort(35, 0);
        x.endTurn();
        DUE.due("end 7", x.endTurn(), 0);
        DUE.due("supplied again", x.unit(0, 7), 0);
        DUE.due("strength stays", x.unit(0, 1), 1);
    }

    private static void starvingOfTwo() {
        RiverCampaign x = new RiverCampaign();
        x.base(1, 45);
        x.place(0, 9, 1);
        x.place(1, 1, 9);
        x.place(1, 1, 62);
        DUE.due("in supply", x.unit(1, 6), 4);
        x.base(1, 0);
        DUE.due("base in the zone", x.unit(1, 6), RiverCampaign.NONE);
        x.endTurn();
        x.endTurn();
        x.endTurn();
        DUE.due("two are gone at once", x.endTurn(), 2);
        DUE.due("units of 1", x.count(4), 0);
        DUE.due("units so far", x.count(2), 3);
    }

    private static void turnsEnd() {
        RiverCampaign x = new RiverCampaign();
        for (int i = 0; i < 30; i++) {
            x.type('.');
            x.type(i < 29 ? ';' : '>');
        }
        DUE.due("one too many", x.perform(), -100 - 59);
        x.clearText();
        for (int i = 0; i < 27; i++) {
            if (i > 0) {
                x.type(';');
            }
            x.type('.');
        }
        for (int i = 0; i < 37; i++) {
            DUE.due("27 turns", x.perform(), 27);
        }
        DUE.due("turns", x.count(0), 999);
        DUE.due("end of turn 1000", x.endTurn(), RiverCampaign.FULL);
        DUE.due("orders for it", x.perform(), RiverCampaign.FULL);
        DUE.due("turns stay", x.count(0), 999);
        DUE.due("side stays", x.count(1), 1);
        DUE.due("history stays", x.undo(), 3);
        DUE.due("turns undone", x.count(0), 972);
        for (int i = 0; i < 26; i++) {
            DUE.due("turn", x.endTurn(), 0);
        }
        DUE.due("all or none", x.perform(), RiverCampaign.FULL);
        DUE.due("none", x.count(0), 998);
        DUE.due("turn 999", x.endTurn(), 0);
    }

    private static void unitNumbers() {
        RiverCampaign x = new RiverCampaign();
        DUE.due("unit unknown before bad", x.unit(0, 10), RiverCampaign.UNKNOWN);
        x.place(0, 4, 31);
        DUE.due("unit -1", x.unit(-1, 0), RiverCampaign.UNKNOWN);
        DUE.due("unit 1", x.unit(1, 0), RiverCampaign.UNKNOWN);
        DUE.due("unit 16", x.unit(16, 0), RiverCampaign.UNKNOWN);
        DUE.due("unit what 10", x.unit(0, 10), RiverCampaign.BAD_VALUE);
        DUE.due("unit what -1", x.unit(0, -1), RiverCampaign.BAD_VALUE);
        // It reaches 8 hexes in its row, and 8, 7 and 6 in the rows on either side.
        int[] due = {0, 4, 31, 4, 1, 1, 4, 0, 8 + 2 * (8 + 7 + 6), 0};
        for (int what = 0; what < 10; what++) {
            DUE.due("unit(0, " + what + ")", x.unit(0, what), due[what]);
        }
        x.fort(32, 1);
        DUE.due("a fort of the enemy sees it", x.unit(0, 9), 1);
        x.fort(32, 2);
        x.place(1, 4, 33);
        DUE.due("a unit of the enemy sees it", x.unit(0, 9), 1);
        x.ground(31, 1);
        DUE.due("but not in forest", x.unit(0, 9), 0);
        DUE.due("it sees the other", x.unit(1, 9), 1);
    }

    private static void supplySteps() {
        RiverCampaign x = new RiverCampaign();
        x.place(0, 5, 33);
        DUE.due("6 steps", x.unit(0, 6), 6);
        DUE.due("supplied", x.unit(0, 5), 1);
        x.move(0, 34);
        DUE.due("7 steps", x.unit(0, 6), RiverCampaign.NONE);
        DUE.due("not supplied", x.unit(0, 5), 0);
        x.fort(30, 1);
        DUE.due("fort of the other", x.unit(0, 5), 0);
        x.fort(30, 2);
        x.fort(30, 0);
        DUE.due("fort", x.unit(0, 6), 4);
        x.fort(34, 1);
        DUE.due("its own fort", x.unit(0, 6), 0);
        x.base(0, 33);
        x.fort(34, 2);
        DUE.due("base beside", x.unit(0, 6), 1);
        x.ground(33, 2);
        x.river(34, 3, true);
        DUE.due("steps have no cost", x.unit(0, 6), 1);
    }

    private static void supplyOfTheFirstHex() {
        RiverCampaign x = new RiverCampaign();
        x.place(0, 5, 2);
        DUE.due("far from the base", x.unit(0, 5), 1);
        x.base(0, 62);
        DUE.due("too far from the base", x.unit(0, 5), 0);
        x.fort(0, 0);
        DUE.due("near the fort", x.unit(0, 5), 1);
        DUE.due("steps", x.unit(0, 6), 2);
    }

    private static void supplyAndZones() {
        RiverCampaign x = new RiverCampaign();
        x.place(0, 5, 31);
        x.base(0, 28);
        DUE.due("free", x.unit(0, 6), 3);
        x.place(1, 5, 29);
        DUE.due("base in the zone", x.unit(0, 6), RiverCampaign.NONE);
        x.place(0, 5, 28);
        DUE.due("a unit frees the base", x.unit(2, 6), 0);
        DUE.due("around the zone", x.unit(0, 6), 6);
        x.place(0, 5, 20);
        DUE.due("a unit frees its hex", x.unit(0, 6), 5);
        x.place(0, 5, 21);
        DUE.due("another one", x.unit(0, 6), 4);
        x.base(0, 29);
        DUE.due("an enemy on the base", x.unit(2, 6), RiverCampaign.NONE);
        x.base(1, 28);
        DUE.due("an enemy on the other base", x.unit(1, 6), RiverCampaign.NONE);
        x.base(1, 30);
        DUE.due("beside its base, which is in no zone", x.unit(1, 6), RiverCampaign.NONE);
        x.base(1, 29);
        DUE.due("in a zone, on its base", x.unit(1, 6), 0);
    }

    private static void costErrors() {
        RiverCampaign x = new RiverCampaign();
        x.place(0, 5, 27);
        x.place(1, 5, 35);
        DUE.due("cost unit 2", x.cost(2, 0), RiverCampaign.UNKNOWN);
        DUE.due("cost unit -1", x.cost(-1, 0), RiverCampaign.UNKNOWN);
        DUE.due("cost hex 63", x.cost(0, 63), RiverCampaign.UNKNOWN);
        DUE.due("cost hex -1", x.cost(0, -1), RiverCampaign.UNKNOWN);
        DUE.due("cost own hex", x.cost(0, 27), 0);
        DUE.due("cost too far", x.cost(0, 32), RiverCampaign.NONE);
        DUE.due("cost 4", x.cost(0, 31), 4);
        DUE.due("cost out of turn", x.cost(1, 34), 1);
        x.move(0, 30);
        DUE.due("cost with the points that are left", x.cost(0, 32), RiverCampaign.NONE);
        DUE.due("cost 1", x.cost(0, 31), 1);
        x.move(0, 31);
        DUE.due("own hex without points", x.cost(0, 31), 0);
        DUE.due("reaches nothing", x.unit(0, 8), 0);
    }
}
