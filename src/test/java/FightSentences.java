/** Terms: fights, and the end of a turn. */
final class FightSentences {
    private static final int UNKNOWN = Play.UNKNOWN;
    private static final int NONE = Play.NONE;

    private FightSentences() {
    }

    static void all(Walk w) {
        w.over("FIGHTS");
        powerOfAttack(w);
        powerOfDefence(w);
        halves(w);
        losses(w);
        gone(w);
        w.over("THE END OF A TURN");
        starving(w);
        theOtherSide(w);
    }

    /** The unit 0 on 28 and 1 on 29, each with its base behind it. */
    private static RiverCampaign fight(int attack, int defence) {
        RiverCampaign x = Play.units(0, attack, 28, 1, defence, 29);
        x.base(1, 30);
        return x;
    }

    private static void powerOfAttack(Walk w) {
        w.at("The power of a unit that attacks is twice its strength, halved if it is not supplied, "
            + "and halved if there is a river between it and the one that it attacks.");
        for (int strength = 1; strength <= 9; strength++) {
            RiverCampaign x = fight(strength, 5);
            w.due("power", x.would(0, 29, 0), 2 * strength);
            x.ground(28, 2);
            x.fort(28, 0);
            w.due("on a hill and a fort", x.would(0, 29, 0), 2 * strength);
            x.fort(28, 2);
            x.river(28, 1, true);
            w.due("a river elsewhere", x.would(0, 29, 0), 2 * strength);
            x.river(29, 3, true);
            w.due("over a river", x.would(0, 29, 0), strength);
            x.base(0, 62);
            w.due("over a river, not supplied", x.would(0, 29, 0), strength / 2);
            x.river(29, 3, false);
            w.due("not supplied", x.would(0, 29, 0), strength);
        }
    }

    private static void powerOfDefence(Walk w) {
        w.at("The power of the one that is attacked is twice its strength, doubled on a fort, "
            + "2 more in forest or on a hill, and then halved if it is not supplied.");
        for (int strength = 1; strength <= 9; strength++) {
            RiverCampaign x = fight(5, strength);
            w.due("power", x.would(0, 29, 1), 2 * strength);
            x.river(28, 0, true);
            w.due("over a river", x.would(0, 29, 1), 2 * strength);
            x.ground(29, 1);
            w.due("in forest", x.would(0, 29, 1), 2 * strength + 2);
            x.ground(29, 2);
            w.due("on a hill", x.would(0, 29, 1), 2 * strength + 2);
            x.base(1, 62);
            w.due("on a hill, not supplied", x.would(0, 29, 1), strength + 1);
            x.ground(29, 0);
            w.due("not supplied", x.would(0, 29, 1), strength);
            // A fort under a unit is its source, so that it is supplied.
            x.fort(29, 1);
            w.due("on a fort", x.would(0, 29, 1), 4 * strength);
            x.ground(29, 1);
            w.due("on a fort in forest", x.would(0, 29, 1), 4 * strength + 2);
        }
    }

    private static void halves(Walk w) {
        w.at("(Halves are rounded down.)");
        int[] quarters = {0, 0, 1, 1, 2, 2, 3, 3, 4, 4};
        for (int strength = 1; strength <= 9; strength++) {
            RiverCampaign x = fight(strength, 1);
            x.base(0, 62);
            x.river(28, 0, true);
            w.due("a quarter of twice " + strength, x.would(0, 29, 0), quarters[strength]);
        }
    }

    private static void losses(Walk w) {
        w.at("If the power of the attack is greater, the strength of the one that is attacked becomes less by 1 "
            + "and by the difference of the powers divided by 4, rounded down;");
        // Differences 2, 4, 6, 8, 10 and 12 of those that are supplied.
        int[] losses = {1, 2, 2, 3, 3, 4};
        for (int more = 1; more <= 5; more++) {
            RiverCampaign x = fight(4 + more, 4);
            fought(w, x, 4 + more, Math.max(0, 4 - losses[more - 1]));
        }
        // Odd differences: the power of one that is not supplied is its strength.
        int[][] odd = {{5, 9, 8}, {6, 9, 8}, {7, 9, 7}, {8, 9, 7}, {9, 9, 6}, {9, 7, 4}, {9, 5, 1}, {8, 5, 2}};
        for (int[] row : odd) {
            RiverCampaign x = fight(row[0], row[1]);
            x.base(1, 62);
            fought(w, x, row[0], row[2]);
        }
        w.at("otherwise that of the one that attacks becomes less by 1 and by the difference divided by 4, "
            + "rounded down.");
        for (int more = 0; more <= 5; more++) {
            RiverCampaign x = fight(4, 4 + more);
            fought(w, x, Math.max(0, 4 - (more == 0 ? 1 : losses[more - 1])), 4 + more);
        }
        for (int[] row : odd) {
            RiverCampaign x = fight(row[1], row[0]);
            x.base(0, 62);
            fought(w, x, row[2], row[0]);
        }
    }

    private static void fought(Walk w, RiverCampaign x, int attackLeft, int defenceLeft) {
        w.due("would attack", x.would(0, 29, 2), attackLeft);
        w.due("would defend", x.would(0, 29, 3), defenceLeft);
        w.due("attack", x.attack(0, 29), defenceLeft);
        w.due("the one", x.unit(0, 1), attackLeft == 0 ? UNKNOWN : attackLeft);
        w.due("the other", x.unit(1, 1), defenceLeft == 0 ? UNKNOWN : defenceLeft);
    }

    private static void gone(Walk w) {
        w.at("A unit whose strength would be 0 or less is gone.");
        int[][] gone = {{6, 2, 0}, {4, 2, 0}, {9, 1, 0}, {3, 1, 0}};
        for (int[] row : gone) {
            RiverCampaign x = fight(row[0], row[1]);
            w.due("attack", x.attack(0, 29), row[2]);
            w.due("is gone", x.unit(1, 2), UNKNOWN);
            w.due("units", x.count(4), 0);
            RiverCampaign y = fight(row[1], row[0]);
            w.due("attack the other way", y.attack(0, 29), row[0]);
            w.due("is gone", y.unit(0, 2), UNKNOWN);
            w.due("nobody there", y.hex(28, 3), NONE);
            w.due("units", y.count(3), 0);
        }
        w.at("If the one that was attacked is gone, the one that attacked goes to its hex.");
        RiverCampaign x = fight(6, 2);
        x.fort(29, 1);
        x.ground(29, 2);
        x.place(0, 9, 38);
        // 18 against 10, which leaves nothing of 2.
        w.due("attack", x.attack(2, 29), 0);
        w.due("its hex", x.unit(2, 2), 29);
        w.due("it stands there", x.hex(29, 3), 2);
        w.due("nobody behind", x.hex(38, 3), NONE);
        w.due("its points", x.unit(2, 3), 4);
        w.due("its zone", x.hex(30, 4), 1);
        w.due("the fort", x.hex(29, 2), 0);
        RiverCampaign y = fight(6, 5);
        w.due("one that is not gone", y.attack(0, 29), 4);
        w.due("the hex stays", y.unit(0, 2), 28);
    }

    private static void starving(Walk w) {
        w.at("When the turn of a side ends, each of its units that is not supplied has starved for one turn more,");
        RiverCampaign x = Play.units(0, 9, 0, 0, 9, 27, 1, 9, 62, 0, 9, 8);
        x.base(0, 36);
        x.base(1, 18);
        w.due("at first", x.unit(0, 7), 0);
        x.endTurn();
        int[] starved = {0, 0, 0, 1};
        for (int unit = 0; unit < 4; unit++) {
            w.due("turns of " + unit, x.unit(unit, 7), starved[unit]);
        }
        x.endTurn();
        w.due("of the other side, in its turn", x.unit(2, 7), 1);
        w.due("of this side, not in its turn", x.unit(3, 7), 1);
        w.at("others for 0;");
        x.base(0, 17);
        w.due("supplied, ahead of the end", x.unit(3, 7), 1);
        x.endTurn();
        w.due("supplied", x.unit(3, 7), 0);
        w.due("the one that is not any more", x.unit(0, 7), 1);
        w.at("one that has starved for 2 turns or more loses 1 of its strength (and may be gone),");
        RiverCampaign y = Play.units(0, 3, 0);
        y.base(0, 62);
        int[] strengths = {3, 2, 1, UNKNOWN};
        for (int turn = 0; turn < 4; turn++) {
            w.due("end " + turn, y.endTurn(), turn == 3 ? 1 : 0);
            w.due("strength", y.unit(0, 1), strengths[turn]);
            w.due("starved", y.unit(0, 7), turn == 3 ? UNKNOWN : turn + 1);
            y.endTurn();
        }
        w.due("nobody there", y.hex(0, 3), NONE);
        w.at("by ascending numbers, supply being looked at for all of them ahead of that.");
        RiverCampaign z = Play.units(0, 1, 0, 0, 1, 1, 0, 2, 2, 0, 1, 4);
        z.base(0, 62);
        Play.endTurns(z, 2);
        w.due("three at once", z.endTurn(), 3);
        w.due("the one that is left", z.unit(2, 1), 1);
        w.due("units", z.count(3), 1);
        w.due("of all", z.count(2), 4);
    }

    private static void theOtherSide(Walk w) {
        w.at("Then it is the turn of the other side.");
        RiverCampaign x = Play.units(0, 5, 0, 1, 5, 62);
        for (int turn = 0; turn < 4; turn++) {
            w.due("side", x.count(1), turn % 2);
            w.due("may move", x.move(turn % 2, x.unit(turn % 2, 2)), NONE);
            w.due("may not move", x.move(1 - turn % 2, x.unit(1 - turn % 2, 2)), Play.NOT_POSSIBLE);
            x.endTurn();
        }
    }
}
