/** The boundaries of fights and of the end of a turn: halves, differences, units that are gone, 999 turns (8, 9, 21). */
public final class FightEdgesTest {
    private static final Due DUE = new Due();
    private static final int UNKNOWN = RiverCampaign.UNKNOWN;
    private static final int BAD_VALUE = RiverCampaign.BAD_VALUE;
    private static final int FULL = RiverCampaign.FULL;
    private static final int NOT_POSSIBLE = RiverCampaign.NOT_POSSIBLE;
    private static final int NONE = RiverCampaign.NONE;
    private static final int[] FAR_OUT = {Integer.MIN_VALUE, -1000, 1000, Integer.MAX_VALUE};

    public static void main(String[] args) {
        powersOfAttacks();
        powersOfDefence();
        powersThatAreEqual();
        differencesOfTheStronger();
        differencesOfTheWeaker();
        theOneThatIsAttackedIsGone();
        theOneThatAttacksIsGone();
        allFights();
        whatOfWould();
        wouldWithoutAFight();
        wouldChangesNothing();
        starvingForTwoTurns();
        starvingUntilItIsGone();
        starvingOfTheSideInTurn();
        suppliedAgain();
        supplyAtTheEndOfTheTurn();
        howManyAreGone();
        turn999();
        turn999ByOrders();
        DUE.end();
    }

    /** The one that attacks on 28, the other one on 29; both supplied from the hex behind, or from nowhere. */
    private static RiverCampaign fight(int attack, boolean attackIsSupplied, int defence, boolean defenceIsSupplied) {
        RiverCampaign x = new RiverCampaign();
        x.base(0, attackIsSupplied ? 27 : 62);
        x.base(1, defenceIsSupplied ? 30 : 62);
        x.place(0, attack, 28);
        x.place(1, defence, 29);
        return x;
    }

    private static void powersOfAttacks() {
        DUE.sentence("The power of a unit that attacks is twice its strength, halved if it is not supplied, "
            + "and halved if there is a river between it and the one that it attacks.");
        DUE.sentence("(Halves are rounded down.)");
        // By strengths: supplied, not supplied, over a river, both.
        int[][] due = {{}, {2, 1, 1, 0}, {4, 2, 2, 1}, {6, 3, 3, 1}, {8, 4, 4, 2}, {10, 5, 5, 2}, {12, 6, 6, 3},
            {14, 7, 7, 3}, {16, 8, 8, 4}, {18, 9, 9, 4}};
        for (int strength = 1; strength <= 9; strength++) {
            for (int i = 0; i < 4; i++) {
                RiverCampaign x = fight(strength, i % 2 == 0, 5, true);
                x.ground(28, 2);
                x.river(28, 1, true);
                x.river(29, 0, true);
                x.river(28, 0, i >= 2);
                DUE.due("attack of " + strength + ", " + i, x.would(0, 29, 0), due[strength][i]);
            }
        }
    }

    private static void powersOfDefence() {
        DUE.sentence("The power of the one that is attacked is twice its strength, doubled on a fort, "
            + "2 more in forest or on a hill, and then halved if it is not supplied.");
        // By grounds: supplied, not supplied, on a fort.
        int[][] of1 = {{2, 1, 4}, {4, 2, 6}, {4, 2, 6}};
        int[][] of9 = {{18, 9, 36}, {20, 10, 38}, {20, 10, 38}};
        for (int kind = 0; kind <= 2; kind++) {
            for (int i = 0; i < 3; i++) {
                DUE.due("defence of 1, " + kind + i, defence(1, kind, i == 0, i == 2), of1[kind][i]);
                DUE.due("defence of 9, " + kind + i, defence(9, kind, i == 0, i == 2), of9[kind][i]);
            }
        }
        RiverCampaign x = fight(5, true, 5, true);
        x.river(28, 0, true);
        x.fort(28, 0);
        DUE.due("a river and the other's fort do not count", x.would(0, 29, 1), 10);
    }

    private static int defence(int strength, int kind, boolean supplied, boolean onFort) {
        RiverCampaign x = fight(5, true, strength, supplied);
        x.ground(29, kind);
        if (onFort) {
            x.fort(29, 0);
        }
        return x.would(0, 29, 1);
    }

    private static void powersThatAreEqual() {
        DUE.sentence("If the power of the attack is greater, the strength of the one that is attacked becomes less by 1");
        for (int strength = 1; strength <= 9; strength++) {
            RiverCampaign x = fight(strength, true, strength, true);
            DUE.due("would attack", x.would(0, 29, 2), strength - 1);
            DUE.due("would defend", x.would(0, 29, 3), strength);
            DUE.due("a tie of " + strength, x.attack(0, 29), strength);
            DUE.due("the one that attacked", x.unit(0, 1), strength == 1 ? UNKNOWN : strength - 1);
        }
    }

    private static void differencesOfTheStronger() {
        DUE.sentence("and by the difference of the powers divided by 4, rounded down");
        // The power of one that is not supplied is its strength, that of another twice its strength.
        loss(5, true, 9, false, 0, 1);
        loss(6, true, 9, false, 0, 1);
        loss(6, true, 8, false, 0, 2);
        loss(8, true, 9, false, 0, 2);
        loss(8, true, 8, false, 0, 3);
        loss(9, true, 7, false, 0, 3);
        loss(9, true, 6, false, 0, 4);
        loss(9, true, 1, true, 0, 1);
    }

    private static void differencesOfTheWeaker() {
        DUE.sentence("otherwise that of the one that attacks becomes less by 1 and by the difference divided by 4, "
            + "rounded down.");
        loss(9, false, 5, true, 1, 0);
        loss(9, false, 6, true, 1, 0);
        loss(8, false, 6, true, 2, 0);
        loss(9, false, 8, true, 2, 0);
        loss(8, false, 8, true, 3, 0);
        loss(7, false, 9, true, 3, 0);
        loss(6, false, 9, true, 4, 0);
    }

    private static void loss(int attack, boolean attackSupplied, int defence, boolean defenceSupplied, int attackLoses,
        int defenceLoses) {
        RiverCampaign x = fight(attack, attackSupplied, defence, defenceSupplied);
        DUE.due("would attack", x.would(0, 29, 2), attack - attackLoses);
        DUE.due("would defend", x.would(0, 29, 3), defence - defenceLoses);
        DUE.due(attack + " attacks " + defence, x.attack(0, 29), defence - defenceLoses);
        DUE.due("strength then", x.unit(0, 1), attack - attackLoses);
    }

    private static void theOneThatIsAttackedIsGone() {
        DUE.sentence("Returns the strength of the one that was attacked then (0 if it is gone)");
        RiverCampaign one = fight(6, true, 3, true);
        DUE.due("1 is left", one.attack(0, 29), 1);
        DUE.due("it stays", one.unit(0, 2), 28);
        RiverCampaign none = fight(6, true, 2, true);
        none.ground(29, 2);
        DUE.due("would be 0", none.would(0, 29, 3), 0);
        DUE.due("0 is left", none.attack(0, 29), 0);
        DUE.due("it goes there", none.unit(0, 2), 29);
        DUE.due("the other is gone", none.unit(1, 1), UNKNOWN);
        RiverCampaign less = fight(9, true, 1, true);
        DUE.due("would be less", less.would(0, 29, 3), 0);
        DUE.due("less is left", less.attack(0, 29), 0);
        DUE.due("it goes there, too", less.unit(0, 2), 29);
        DUE.due("its hex is empty", less.hex(28, 3), NONE);
        DUE.due("its strength stays", less.unit(0, 1), 9);
        DUE.due("its points stay", less.unit(0, 3), 4);
    }

    private static void theOneThatAttacksIsGone() {
        RiverCampaign one = fight(2, true, 2, true);
        DUE.due("a tie of 2", one.attack(0, 29), 2);
        DUE.due("1 is left", one.unit(0, 1), 1);
        RiverCampaign none = fight(2, true, 4, true);
        DUE.due("would be 0", none.would(0, 29, 2), 0);
        DUE.due("0 is left", none.attack(0, 29), 4);
        DUE.due("is gone", none.unit(0, 1), UNKNOWN);
        DUE.due("the other stays", none.unit(1, 2), 29);
        RiverCampaign less = fight(1, true, 9, true);
        less.ground(29, 2);
        less.fort(29, 1);
        DUE.due("would be less", less.would(0, 29, 2), 0);
        DUE.due("less is left", less.attack(0, 29), 9);
        DUE.due("is gone, too", less.unit(0, 1), UNKNOWN);
        DUE.due("its hex is empty", less.hex(28, 3), NONE);
        DUE.due("is an act", less.undo(), 3);
        DUE.due("is there again", less.unit(0, 1), 1);
    }

    private static void allFights() {
        DUE.sentence("Tells what a fight would bring, whosever turn it is.");
        for (int attack = 1; attack <= 9; attack++) {
            for (int defence = 1; defence <= 9; defence++) {
                for (int i = 0; i < 16; i++) {
                    oneFight(attack, i % 2 == 0, i / 2 % 2 == 0, defence, i / 4);
                }
            }
        }
    }

    /** {@code place}: 0 supplied, 1 not supplied, 2 on a fort, 3 in forest. */
    private static void oneFight(int attack, boolean supplied, boolean river, int defence, int place) {
        RiverCampaign x = fight(attack, supplied, defence, place != 1);
        x.river(28, 0, river);
        if (place == 2) {
            x.fort(29, 1);
        }
        x.ground(29, place == 3 ? 1 : 0);
        int power = attack * 2 / (supplied ? 1 : 2) / (river ? 2 : 1);
        int other = new int[] {defence * 2, defence, defence * 4, defence * 2 + 2}[place];
        int attackLeft = power > other ? attack : Math.max(0, attack - 1 - (other - power) / 4);
        int defenceLeft = power > other ? Math.max(0, defence - 1 - (power - other) / 4) : defence;
        x.endTurn();
        DUE.due("power", x.would(0, 29, 0), power);
        DUE.due("power of the defence", x.would(0, 29, 1), other);
        DUE.due("left of the attack", x.would(0, 29, 2), attackLeft);
        DUE.due("left of the defence", x.would(0, 29, 3), defenceLeft);
        x.undo();
        DUE.due("attack", x.attack(0, 29), defenceLeft);
        DUE.due("strength of the one", x.unit(0, 1), attackLeft == 0 ? UNKNOWN : attackLeft);
        DUE.due("strength of the other", x.unit(1, 1), defenceLeft == 0 ? UNKNOWN : defenceLeft);
        DUE.due("on 29", x.hex(29, 3), defenceLeft == 0 ? 0 : 1);
        DUE.due("on 28", x.hex(28, 3), attackLeft > 0 && defenceLeft > 0 ? 0 : NONE);
    }

    private static void whatOfWould() {
        DUE.sentence("Returns the number; UNKNOWN (unit or hex); BAD_VALUE; NOT_POSSIBLE if no enemy stands there");
        RiverCampaign x = fight(5, true, 5, true);
        DUE.due("what -1", x.would(0, 29, -1), BAD_VALUE);
        DUE.due("what 4", x.would(0, 29, 4), BAD_VALUE);
        for (int what : FAR_OUT) {
            DUE.due("what " + what, x.would(0, 29, what), BAD_VALUE);
        }
        int[] due = {10, 10, 4, 5};
        for (int what = 0; what <= 3; what++) {
            DUE.due("what " + what, x.would(0, 29, what), due[what]);
        }
    }

    private static void wouldWithoutAFight() {
        RiverCampaign x = fight(5, true, 5, true);
        x.place(0, 5, 27);
        for (int what = 0; what <= 3; what++) {
            DUE.due("nobody", x.would(0, 37, what), NOT_POSSIBLE);
            DUE.due("its own", x.would(0, 27, what), NOT_POSSIBLE);
            DUE.due("itself", x.would(0, 28, what), NOT_POSSIBLE);
            DUE.due("two steps off", x.would(2, 29, what), NOT_POSSIBLE);
        }
    }

    private static void wouldChangesNothing() {
        RiverCampaign x = fight(9, true, 1, true);
        x.attack(0, 29);
        x.undo();
        int acts = x.count(12);
        for (int what = 0; what <= 3; what++) {
            x.would(0, 29, what);
        }
        DUE.due("acts", x.count(12), acts);
        DUE.due("attack", x.unit(0, 4), 1);
        DUE.due("strength", x.unit(1, 1), 1);
        DUE.due("still so", x.attack(0, 29), 0);
        DUE.due("has attacked", x.would(0, 29, 0), NOT_POSSIBLE);
    }

    private static void starvingForTwoTurns() {
        DUE.sentence("one that has starved for 2 turns or more loses 1 of its strength (and may be gone)");
        RiverCampaign x = new RiverCampaign();
        x.base(0, 62);
        x.place(0, 9, 0);
        for (int turns = 1; turns <= 9; turns++) {
            DUE.due("none is gone", x.endTurn(), 0);
            DUE.due("starved", x.unit(0, 7), turns);
            DUE.due("strength", x.unit(0, 1), 9 - turns + 1);
            DUE.due("the other's turn", x.endTurn(), 0);
            DUE.due("starved still", x.unit(0, 7), turns);
        }
        DUE.due("1 is left", x.unit(0, 1), 1);
        DUE.due("is gone", x.endTurn(), 1);
        DUE.due("unknown", x.unit(0, 7), UNKNOWN);
        DUE.due("hex", x.hex(0, 3), NONE);
        x.endTurn();
        DUE.due("is not gone again", x.endTurn(), 0);
    }

    private static void starvingUntilItIsGone() {
        DUE.sentence("Returns how many units are gone by that");
        RiverCampaign x = new RiverCampaign();
        x.base(0, 62);
        x.place(0, 1, 0);
        x.fort(1, 1);
        DUE.due("end 1", x.endTurn(), 0);
        DUE.due("strength 1", x.unit(0, 1), 1);
        x.fort(0, 0);
        x.endTurn();
        DUE.due("supplied by its fort", x.endTurn(), 0);
        DUE.due("starved", x.unit(0, 7), 0);
        x.fort(0, 2);
        x.endTurn();
        DUE.due("starved once", x.endTurn(), 0);
        x.endTurn();
        DUE.due("gone", x.endTurn(), 1);
        DUE.due("units", x.count(3), 0);
        DUE.due("undo", x.undo(), 3);
        DUE.due("there again", x.unit(0, 7), 1);
    }

    private static void starvingOfTheSideInTurn() {
        DUE.sentence("When the turn of a side ends, each of its units that is not supplied has starved for one turn more");
        RiverCampaign x = new RiverCampaign();
        x.base(0, 62);
        x.base(1, 54);
        x.place(0, 5, 0);
        x.place(1, 5, 8);
        DUE.due("placed", x.unit(0, 7), 0);
        x.endTurn();
        DUE.due("0 in the turn of 0", x.unit(0, 7), 1);
        DUE.due("1 in the turn of 0", x.unit(1, 7), 0);
        x.place(0, 5, 4);
        x.endTurn();
        DUE.due("0 in the turn of 1", x.unit(0, 7), 1);
        DUE.due("1 in the turn of 1", x.unit(1, 7), 1);
        DUE.due("placed in the turn of 1", x.unit(2, 7), 0);
        x.endTurn();
        DUE.due("0 loses 1", x.unit(0, 1), 4);
        DUE.due("1 does not yet", x.unit(1, 1), 5);
        x.endTurn();
        DUE.due("1 loses 1", x.unit(1, 1), 4);
        DUE.due("0 no more", x.unit(0, 1), 4);
    }

    private static void suppliedAgain() {
        DUE.sentence("others for 0");
        RiverCampaign x = new RiverCampaign();
        x.base(0, 62);
        x.place(0, 9, 0);
        for (int end = 0; end < 6; end++) {
            x.endTurn();
        }
        DUE.due("starved", x.unit(0, 7), 3);
        DUE.due("strength", x.unit(0, 1), 7);
        x.base(0, 2);
        DUE.due("supplied, but starved still", x.unit(0, 7), 3);
        x.endTurn();
        DUE.due("starved no more", x.unit(0, 7), 0);
        DUE.due("strength stays", x.unit(0, 1), 7);
        x.base(0, 62);
        x.endTurn();
        x.endTurn();
        DUE.due("once again", x.unit(0, 7), 1);
        DUE.due("without loss", x.unit(0, 1), 7);
    }

    private static void supplyAtTheEndOfTheTurn() {
        RiverCampaign x = new RiverCampaign();
        x.place(0, 5, 34);
        DUE.due("7 steps", x.unit(0, 5), 0);
        x.endTurn();
        DUE.due("starved", x.unit(0, 7), 1);
        x.endTurn();
        x.move(0, 33);
        x.endTurn();
        DUE.due("6 steps at the end", x.unit(0, 7), 0);
        x.endTurn();
        x.move(0, 34);
        x.endTurn();
        DUE.due("7 steps at the end", x.unit(0, 7), 1);
    }

    private static void howManyAreGone() {
        DUE.sentence("by ascending numbers, supply being looked at for all of them ahead of that.");
        int[] farOff = {0, 1, 2, 3, 4, 9, 10, 11};
        for (int many = 0; many <= 8; many++) {
            RiverCampaign x = new RiverCampaign();
            x.base(0, 62);
            for (int unit = 0; unit < 8; unit++) {
                x.place(0, unit < many ? 1 : 2, farOff[unit]);
            }
            x.place(1, 1, 26);
            x.endTurn();
            x.endTurn();
            DUE.due(many + " are gone", x.endTurn(), many);
            DUE.due("units of 0", x.count(3), 8 - many);
            DUE.due("strength of 0", x.count(5), 8 - many);
            DUE.due("units so far", x.count(2), 9);
            DUE.due("the other side", x.count(4), 1);
        }
    }

    private static void write(RiverCampaign x, int turns) {
        x.clearText();
        for (int i = 0; i < turns; i++) {
            if (i > 0) {
                x.type(';');
            }
            x.type('.');
        }
    }

    /** By texts of up to 30 orders, as an object promises no more than 512 calls. */
    private static RiverCampaign afterTurns(int turns) {
        RiverCampaign x = new RiverCampaign();
        x.place(0, 9, 0);
        x.base(0, 0);
        write(x, 30);
        for (int i = 0; i < turns / 30; i++) {
            x.perform();
        }
        write(x, turns % 30);
        x.perform();
        return x;
    }

    private static void turn999() {
        DUE.sentence("FULL if 999 turns have ended.");
        RiverCampaign x = afterTurns(998);
        DUE.due("998", x.count(0), 998);
        DUE.due("side 0", x.count(1), 0);
        DUE.due("the turn 999", x.endTurn(), 0);
        DUE.due("999", x.count(0), 999);
        DUE.due("side 1", x.count(1), 1);
        DUE.due("the turn 1000", x.endTurn(), FULL);
        DUE.due("999 still", x.count(0), 999);
        DUE.due("side 1 still", x.count(1), 1);
        DUE.due("keep", x.keep(), 999);
        DUE.due("place", x.place(1, 5, 62), 1);
        DUE.due("a move in it", x.move(1, 61), 3);
        DUE.due("restore", x.restore(), 999);
        DUE.due("no more", x.endTurn(), FULL);
        x.undo();
        x.undo();
        x.undo();
        DUE.due("undo the turn 999", x.undo(), 0);
        DUE.due("998 again", x.count(0), 998);
        DUE.due("999 again", x.endTurn(), 0);
        DUE.due("FULL again", x.endTurn(), FULL);
    }

    private static void turn999ByOrders() {
        RiverCampaign x = afterTurns(998);
        write(x, 2);
        DUE.due("two more", x.perform(), FULL);
        DUE.due("none of them", x.count(0), 998);
        DUE.due("states", x.count(12), 4);
        write(x, 1);
        DUE.due("one more", x.perform(), 1);
        DUE.due("999", x.count(0), 999);
        DUE.due("one too many", x.perform(), FULL);
        x.type(';');
        DUE.due("a fault ahead of that", x.perform(), -102);
    }
}
