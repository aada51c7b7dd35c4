/** The boundaries of ways, supply, sight and sieges (promises 7, 16, 19, 20, 22, 23). */
public final class WayEdgesTest {
    private static final Due DUE = new Due();
    private static final int UNKNOWN = RiverCampaign.UNKNOWN;
    private static final int NOT_POSSIBLE = RiverCampaign.NOT_POSSIBLE;
    private static final int NONE = RiverCampaign.NONE;

    public static void main(String[] args) {
        pointsOfAStep();
        pointsOfTheHexThatIsLeft();
        riversOfBothBanks();
        noMoreThanItsPoints();
        theLastPointsOfDearSteps();
        theCheapestWay();
        notOverEnemies();
        overItsOwn();
        notOutOfAZone();
        outOfTheZoneWhereItBegins();
        zonesUnderItsOwn();
        zonesOfItsOwn();
        costOfItsOwnHex();
        costOutOfTurn();
        sixSteps();
        sourcesOfItsOwnSide();
        supplyOnItsOwnHex();
        hexesThatAreFree();
        theLastHexHasToBeFree();
        stepsHaveNoPoints();
        sightOfUnits();
        sightOfForts();
        sightIntoForest();
        sightOfAll();
        sieges();
        siegesAtTheEdge();
        siegesOfAllHexes();
        DUE.end();
    }

    /** A river on each side of a hex, so that there is no dry way around. */
    private static void moat(RiverCampaign x, int hex) {
        for (int direction = 0; direction <= 5; direction++) {
            x.river(hex, direction, true);
        }
    }

    private static void pointsOfAStep() {
        DUE.sentence("To enter a hex costs 1 point on plain, 2 in forest and on a hill, and 1 more over a river.");
        int[] dry = {1, 2, 2};
        for (int kind = 0; kind <= 2; kind++) {
            RiverCampaign x = new RiverCampaign();
            x.place(0, 5, 31);
            x.ground(32, kind);
            DUE.due("dry", x.cost(0, 32), dry[kind]);
            moat(x, 32);
            DUE.due("over a river", x.cost(0, 32), dry[kind] + 1);
            DUE.due("move over it", x.move(0, 32), 4 - dry[kind] - 1);
        }
    }

    private static void pointsOfTheHexThatIsLeft() {
        RiverCampaign x = new RiverCampaign();
        x.place(0, 5, 31);
        x.ground(31, 2);
        DUE.due("from a hill to plain", x.cost(0, 32), 1);
        x.ground(31, 1);
        DUE.due("from forest to plain", x.cost(0, 32), 1);
        x.river(31, 3, true);
        DUE.due("a river on another side", x.cost(0, 32), 1);
    }

    private static void riversOfBothBanks() {
        for (int direction = 0; direction <= 5; direction++) {
            RiverCampaign x = new RiverCampaign();
            x.place(0, 5, 31);
            int other = x.beside(31, direction);
            x.river(other, (direction + 3) % 6, true);
            DUE.due("laid from the other bank", x.cost(0, other), 2);
            x.move(0, other);
            DUE.due("and back", x.cost(0, 31), 2);
        }
    }

    private static void noMoreThanItsPoints() {
        DUE.sentence("if there is a way there that costs no more than its points");
        RiverCampaign x = new RiverCampaign();
        x.place(0, 5, 27);
        for (int points = 4; points >= 0; points--) {
            int at = x.unit(0, 2);
            for (int far = 1; far <= 5 && at + far <= 35; far++) {
                DUE.due(far + " steps with " + points, x.cost(0, at + far), far <= points ? far : NONE);
            }
            DUE.due("too far with " + points, x.move(0, at + points + 1 < 36 ? at + points + 1 : 0), NOT_POSSIBLE);
            x.move(0, at + 1);
        }
    }

    private static void theLastPointsOfDearSteps() {
        // What is left after steps of 1, and what the step then costs.
        for (int left = 1; left <= 4; left++) {
            for (int dear = 1; dear <= 3; dear++) {
                RiverCampaign x = new RiverCampaign();
                x.place(0, 5, 31);
                for (int i = left; i < 4; i++) {
                    x.move(0, x.unit(0, 2) == 31 ? 30 : 31);
                }
                int at = x.unit(0, 2);
                int to = at == 31 ? 32 : 29;
                x.ground(to, dear == 1 ? 0 : 2);
                if (dear == 3) {
                    moat(x, to);
                }
                DUE.due("cost " + dear + " of " + left, x.cost(0, to), dear <= left ? dear : NONE);
                DUE.due("move " + dear + " of " + left, x.move(0, to), dear <= left ? left - dear : NOT_POSSIBLE);
            }
        }
    }

    private static void theCheapestWay() {
        DUE.sentence("the cost is that of the cheapest one.");
        RiverCampaign x = new RiverCampaign();
        x.place(0, 5, 31);
        x.ground(32, 2);
        DUE.due("straight and around are 3", x.cost(0, 33), 3);
        x.river(31, 0, true);
        DUE.due("around is cheaper", x.cost(0, 33), 3);
        DUE.due("the hill from above", x.cost(0, 32), 3);
        x.ground(23, 1);
        x.ground(41, 1);
        DUE.due("straight and around are 4", x.cost(0, 33), 4);
        x.river(32, 0, true);
        DUE.due("not straight", x.cost(0, 33), 4);
        x.ground(24, 1);
        x.ground(42, 1);
        DUE.due("nowhere", x.cost(0, 33), NONE);
    }

    /** With the turn of the side. */
    private static RiverCampaign inTurn(int side) {
        RiverCampaign x = new RiverCampaign();
        if (side == 1) {
            x.endTurn();
        }
        return x;
    }

    private static void notOverEnemies() {
        DUE.sentence("A way does not enter a hex on which an enemy stands");
        for (int side = 0; side <= 1; side++) {
            RiverCampaign x = inTurn(side);
            x.place(side, 5, 0);
            x.place(1 - side, 5, 1);
            DUE.due("an enemy's hex", x.cost(0, 1), NONE);
            DUE.due("the other way", x.cost(0, 9), 1);
            DUE.due("and not on", x.cost(0, 18), NONE);
            DUE.due("move onto it", x.move(0, 1), NOT_POSSIBLE);
            x.place(1 - side, 5, 9);
            DUE.due("no way", x.unit(0, 8), 0);
            DUE.due("the enemy's ways", x.cost(1, 0), NONE);
            // Behind one enemy in a free row, with none beside the way but that one.
            RiverCampaign y = inTurn(side);
            y.place(side, 5, 31);
            y.place(1 - side, 5, 32);
            DUE.due("not over it in 2", y.cost(0, 33), NONE);
            DUE.due("the hex above it by a free one", y.cost(0, 24), 4);
        }
    }

    private static void overItsOwn() {
        DUE.sentence("it may pass over own units, but not end on one");
        for (int side = 0; side <= 1; side++) {
            RiverCampaign x = inTurn(side);
            x.place(side, 5, 0);
            x.place(side, 5, 1);
            x.place(side, 5, 9);
            x.place(side, 5, 2);
            DUE.due("on its own", x.cost(0, 1), NONE);
            DUE.due("over one", x.cost(0, 10), 2);
            DUE.due("over two", x.cost(0, 3), 3);
            DUE.due("over three", x.cost(0, 4), 4);
            DUE.due("too far over three", x.cost(0, 5), NONE);
            DUE.due("move on its own", x.move(0, 9), NOT_POSSIBLE);
            DUE.due("move over two", x.move(0, 3), 1);
            DUE.due("those stay", x.hex(1, 3), 1);
        }
    }

    private static void notOutOfAZone() {
        DUE.sentence("it does not go on from a hex that is in the zone of the enemy, but for the hex where it begins.");
        for (int side = 0; side <= 1; side++) {
            RiverCampaign x = inTurn(side);
            x.place(side, 5, 29);
            x.place(1 - side, 5, 31);
            DUE.due("into the zone", x.cost(0, 30), 1);
            DUE.due("to another hex of the zone by a free one", x.cost(0, 22), 2);
            DUE.due("around, not through the zone in 3", x.cost(0, 23), 4);
            DUE.due("behind the enemy", x.cost(0, 32), NONE);
            DUE.due("move into the zone", x.move(0, 30), 3);
            DUE.due("a new way begins there", x.move(0, 22), 2);
            DUE.due("and again", x.move(0, 23), 1);
            DUE.due("and again", x.move(0, 32), 0);
        }
    }

    private static void outOfTheZoneWhereItBegins() {
        RiverCampaign x = new RiverCampaign();
        x.place(0, 5, 30);
        x.place(1, 5, 31);
        DUE.due("from zone to zone", x.cost(0, 22), 1);
        DUE.due("not on from there in 2", x.cost(0, 23), 4);
        DUE.due("from zone to free", x.cost(0, 21), 1);
        DUE.due("and on", x.cost(0, 12), 2);
        DUE.due("and on", x.cost(0, 3), 3);
        DUE.due("back to where it begins", x.cost(0, 30), 0);
        RiverCampaign y = new RiverCampaign();
        y.place(0, 5, 0);
        y.place(1, 5, 10);
        // Both hexes beside 0 lie in the zone, so that no way goes on from them.
        DUE.due("1", y.cost(0, 1), 1);
        DUE.due("9", y.cost(0, 9), 1);
        DUE.due("those two alone", y.unit(0, 8), 2);
    }

    private static void zonesUnderItsOwn() {
        RiverCampaign x = new RiverCampaign();
        x.place(0, 5, 29);
        x.place(1, 5, 31);
        x.place(0, 5, 30);
        x.place(0, 5, 21);
        DUE.due("by 39, as 30 is in the zone", x.cost(0, 40), 2);
        x.place(0, 5, 39);
        DUE.due("over its own on 39", x.cost(0, 40), 2);
        x.place(1, 5, 48);
        DUE.due("its own are both in a zone", x.cost(0, 40), NONE);
        RiverCampaign y = new RiverCampaign();
        y.place(0, 5, 27);
        y.place(0, 5, 28);
        y.place(1, 5, 38);
        // 28 lies in the zone of the one on 38, though its own unit stands there.
        DUE.due("not over its own in a zone in 2", y.cost(0, 29), 3);
    }

    private static void zonesOfItsOwn() {
        RiverCampaign x = new RiverCampaign();
        x.place(0, 5, 27);
        x.place(0, 5, 20);
        x.place(0, 5, 38);
        DUE.due("zones of its own side end nothing", x.cost(0, 31), 4);
        x.fort(28, 1);
        DUE.due("nor does a fort", x.cost(0, 31), 4);
    }

    private static void costOfItsOwnHex() {
        DUE.sentence("Returns the cost, 0 for its own hex; UNKNOWN (unit or hex); NONE if it cannot reach it");
        RiverCampaign x = new RiverCampaign();
        x.place(0, 5, 31);
        x.ground(31, 2);
        moat(x, 31);
        DUE.due("its own hex", x.cost(0, 31), 0);
        DUE.due("the others", x.cost(0, 30), 2);
        DUE.due("one more", x.cost(0, 29), 3);
        x.move(0, 29);
        DUE.due("the first one then", x.cost(0, 31), NONE);
        DUE.due("a corner", x.cost(0, 0), NONE);
        DUE.due("no hex", x.cost(0, 63), UNKNOWN);
    }

    private static void costOutOfTurn() {
        RiverCampaign x = new RiverCampaign();
        x.place(1, 5, 35);
        DUE.due("cost out of turn", x.cost(0, 31), 4);
        DUE.due("reach out of turn", x.unit(0, 8) > 0 ? 1 : 0, 1);
        x.endTurn();
        x.move(0, 32);
        x.endTurn();
        DUE.due("cost with 1 point out of turn", x.cost(0, 33), 1);
        DUE.due("2 with 1 point out of turn", x.cost(0, 34), NONE);
    }

    private static void sixSteps() {
        DUE.sentence("A unit is supplied if its hex, or a hex that is at most 6 steps from it by free hexes, is a source");
        RiverCampaign x = new RiverCampaign();
        for (int far = 0; far <= 8; far++) {
            x.place(0, 1, 27 + far);
            boolean supplied = far <= 6;
            DUE.due("supplied at " + far, x.unit(0, 5), supplied ? 1 : 0);
            DUE.due("steps at " + far, x.unit(0, 6), supplied ? far : NONE);
            x.undo();
        }
        RiverCampaign y = new RiverCampaign();
        y.base(0, 0);
        y.fort(0, 1);
        y.place(0, 1, 54);
        DUE.due("6 rows", y.unit(0, 6), 6);
        y.base(0, 8);
        DUE.due("11 steps", y.unit(0, 6), NONE);
        y.fort(8, 0);
        y.fort(59, 0);
        DUE.due("5 steps", y.unit(0, 6), 5);
        y.fort(59, 2);
        y.fort(60, 0);
        DUE.due("6 steps in the row", y.unit(0, 6), 6);
        y.fort(60, 2);
        y.fort(61, 0);
        DUE.due("7 steps in the row", y.unit(0, 6), NONE);
    }

    private static void sourcesOfItsOwnSide() {
        DUE.sentence("is a source: the base of its side, or a fort that belongs to its side.");
        for (int side = 0; side <= 1; side++) {
            RiverCampaign x = new RiverCampaign();
            x.base(side, 62);
            x.base(1 - side, 1);
            x.fort(9, 1 - side);
            x.place(side, 5, 0);
            DUE.due("what belongs to the other", x.unit(0, 5), 0);
            DUE.due("no steps", x.unit(0, 6), NONE);
            x.base(side, 1);
            DUE.due("its base, beside it", x.unit(0, 6), 1);
            x.base(side, 62);
            x.fort(10, side);
            DUE.due("its fort, two steps off", x.unit(0, 6), 2);
            x.fort(0, 1 - side);
            DUE.due("the fort under it", x.unit(0, 6), 0);
        }
    }

    private static void supplyOnItsOwnHex() {
        DUE.sentence("the hex of the unit itself need not be.");
        RiverCampaign x = new RiverCampaign();
        x.place(0, 5, 27);
        for (int hex : new int[] {18, 19, 28, 36, 37}) {
            x.place(1, 5, hex);
        }
        DUE.due("on its base among enemies", x.unit(0, 6), 0);
        DUE.due("supplied", x.unit(0, 5), 1);
        x.base(0, 35);
        DUE.due("not on it", x.unit(0, 5), 0);
    }

    private static void hexesThatAreFree() {
        DUE.sentence("A hex is free for a side if no enemy stands on it, and it is not in the zone of the enemy, "
            + "or a unit of the side stands on it");
        RiverCampaign x = new RiverCampaign();
        x.base(0, 0);
        x.place(0, 5, 4);
        DUE.due("free", x.unit(0, 6), 4);
        x.place(1, 5, 1);
        DUE.due("the base is in the zone", x.unit(0, 6), NONE);
        x.place(0, 5, 0);
        // 2, 9 and 10 lie in the zone, too, and so no free hex is beside the base.
        DUE.due("its unit frees the base alone", x.unit(0, 6), NONE);
        DUE.due("that one is supplied", x.unit(2, 6), 0);
        x.place(0, 5, 9);
        DUE.due("its unit frees 9, too", x.unit(0, 6), 6);
        x.place(0, 5, 10);
        DUE.due("and 10", x.unit(0, 6), 5);
        x.place(0, 5, 2);
        DUE.due("and 2, by 10 and 9", x.unit(0, 6), 5);
        DUE.due("2 itself", x.unit(5, 6), 3);
    }

    private static void theLastHexHasToBeFree() {
        DUE.sentence("all hexes of the steps, the last one too, have to be free");
        RiverCampaign x = new RiverCampaign();
        x.place(0, 5, 30);
        x.base(0, 31);
        x.base(1, 8);
        DUE.due("beside its base", x.unit(0, 6), 1);
        x.place(1, 5, 33);
        DUE.due("the zone ends beside it", x.unit(0, 6), 1);
        x.place(1, 5, 32);
        DUE.due("the base is in the zone", x.unit(0, 6), NONE);
        x.place(0, 5, 31);
        DUE.due("its own unit stands there", x.unit(0, 6), 1);
        x.undo();
        x.place(1, 5, 31);
        DUE.due("an enemy stands there", x.unit(0, 6), NONE);
        x.base(1, 31);
        DUE.due("on the enemy's base, in a zone", x.unit(3, 6), 0);
    }

    private static void stepsHaveNoPoints() {
        RiverCampaign x = new RiverCampaign();
        for (int hex = 28; hex <= 33; hex++) {
            x.ground(hex, 2);
            x.river(hex, 3, true);
        }
        x.place(0, 5, 33);
        DUE.due("6 steps over hills and rivers", x.unit(0, 6), 6);
        x.place(0, 1, 30);
        DUE.due("over its own unit", x.unit(0, 6), 6);
        x.move(0, 32);
        DUE.due("without points", x.unit(0, 6), 5);
    }

    private static void sightOfUnits() {
        DUE.sentence("A side sees a hex if its distance is at most 2 from a unit of the side");
        for (int side = 0; side <= 1; side++) {
            RiverCampaign x = new RiverCampaign();
            x.place(side, 5, 31);
            for (int hex = 0; hex < 63; hex++) {
                int seen = x.distance(31, hex) <= 2 ? 1 : 0;
                DUE.due("side " + side + " sees " + hex, x.hex(hex, 6 + side), seen);
                DUE.due("the other side sees " + hex, x.hex(hex, 7 - side), 0);
            }
            DUE.due("all", x.count(10 + side), 19);
            DUE.due("none", x.count(11 - side), 0);
        }
    }

    private static void sightOfForts() {
        DUE.sentence("or 1 from a fort that belongs to it");
        for (int side = 0; side <= 1; side++) {
            RiverCampaign x = new RiverCampaign();
            x.fort(31, side);
            for (int hex = 0; hex < 63; hex++) {
                int seen = x.distance(31, hex) <= 1 ? 1 : 0;
                DUE.due("side " + side + " sees " + hex, x.hex(hex, 6 + side), seen);
                DUE.due("the other side sees " + hex, x.hex(hex, 7 - side), 0);
            }
            DUE.due("all", x.count(10 + side), 7);
            DUE.due("none", x.count(11 - side), 0);
        }
    }

    private static void sightIntoForest() {
        DUE.sentence("a hex with forest only from a distance of 1, or 0.");
        RiverCampaign x = new RiverCampaign();
        x.place(0, 5, 31);
        x.fort(35, 1);
        int[] forests = {31, 32, 33, 34, 35};
        for (int hex : forests) {
            x.ground(hex, 1);
        }
        DUE.due("0 from a unit", x.hex(31, 6), 1);
        DUE.due("1 from a unit", x.hex(32, 6), 1);
        DUE.due("2 from a unit", x.hex(33, 6), 0);
        DUE.due("0 from a fort", x.hex(35, 7), 1);
        DUE.due("1 from a fort", x.hex(34, 7), 1);
        DUE.due("2 from a fort", x.hex(33, 7), 0);
        x.ground(33, 2);
        DUE.due("a hill 2 from a unit", x.hex(33, 6), 1);
        x.place(1, 5, 33);
        DUE.due("an enemy on a hill", x.unit(1, 9), 1);
        x.ground(33, 1);
        DUE.due("an enemy in forest", x.unit(1, 9), 0);
        x.move(0, 32);
        DUE.due("an enemy in forest from 1", x.unit(1, 9), 1);
    }

    private static void sightOfAll() {
        DUE.sentence("10 and 11 for hexes that the side 0, 1 sees");
        RiverCampaign x = new RiverCampaign();
        DUE.due("nothing", x.count(10), 0);
        for (int hex = 0; hex < 63; hex++) {
            x.fort(hex, 1);
        }
        DUE.due("all of 1", x.count(11), 63);
        DUE.due("none of 0", x.count(10), 0);
        for (int hex = 0; hex < 63; hex++) {
            x.ground(hex, 1);
        }
        DUE.due("all of 1 in forest", x.count(11), 63);
        x.place(0, 5, 0);
        DUE.due("0, 1 and 9 in forest", x.count(10), 3);
        DUE.due("the fort that is lost sees nothing", x.count(11), 63);
        x.fort(1, 2);
        x.fort(9, 2);
        DUE.due("0 is seen no more", x.count(11), 62);
    }

    private static void sieges() {
        DUE.sentence("all hexes beside it are in the zone of the side to which it does not belong, "
            + "or units of that side stand on them.");
        for (int side = 0; side <= 1; side++) {
            RiverCampaign x = new RiverCampaign();
            x.fort(31, side);
            // Beside 31 lie 32, 23, 22, 30, 40, 41.
            x.place(1 - side, 1, 33);
            x.place(1 - side, 1, 21);
            x.place(1 - side, 1, 49);
            DUE.due("23 and 41 are missing", x.besieged(31), 0);
            x.place(1 - side, 1, 41);
            DUE.due("23 is missing", x.besieged(31), 0);
            x.place(side, 1, 14);
            DUE.due("its own unit's zone does not count", x.besieged(31), 0);
            x.place(side, 1, 23);
            DUE.due("nor does its own unit", x.besieged(31), 0);
            x.undo();
            x.place(1 - side, 1, 23);
            DUE.due("all six", x.besieged(31), 1);
            x.fort(31, 2);
            DUE.due("none", x.besieged(31), NONE);
            x.fort(31, 1 - side);
            DUE.due("a fort of those that stand around", x.besieged(31), 0);
        }
    }

    private static void siegesAtTheEdge() {
        DUE.sentence("Returns 1 if it is, otherwise 0; UNKNOWN; NONE if there is no fort.");
        RiverCampaign x = new RiverCampaign();
        DUE.due("no fort", x.besieged(0), NONE);
        x.fort(0, 0);
        DUE.due("alone", x.besieged(0), 0);
        x.place(1, 1, 18);
        DUE.due("9 in the zone, 1 not", x.besieged(0), 0);
        x.place(1, 1, 11);
        DUE.due("11 is too far", x.besieged(0), 0);
        x.place(1, 1, 2);
        DUE.due("1 in the zone, too", x.besieged(0), 1);
        x.undo();
        x.undo();
        x.undo();
        x.place(1, 1, 1);
        DUE.due("a unit on 1, and its zone on 9", x.besieged(0), 1);
        x.place(0, 1, 0);
        DUE.due("its own unit in it", x.besieged(0), 1);
        x.undo();
        x.place(1, 1, 0);
        DUE.due("taken", x.besieged(0), 0);
        DUE.due("-1", x.besieged(-1), UNKNOWN);
        DUE.due("63", x.besieged(63), UNKNOWN);
    }

    private static void siegesOfAllHexes() {
        for (int hex = 0; hex < 63; hex++) {
            RiverCampaign x = new RiverCampaign();
            x.fort(hex, 1);
            for (int direction = 0; direction <= 5; direction++) {
                if (x.beside(hex, direction) != NONE) {
                    DUE.due("fort on " + hex + " until " + direction, x.besieged(hex), isShut(x, hex) ? 1 : 0);
                    x.place(0, 5, x.beside(hex, direction));
                }
            }
            DUE.due("fort on " + hex + ", all around", x.besieged(hex), 1);
        }
    }

    private static boolean isShut(RiverCampaign x, int hex) {
        for (int direction = 0; direction <= 5; direction++) {
            int other = x.beside(hex, direction);
            if (other != NONE && x.hex(other, 3) == NONE && x.hex(other, 4) == 0) {
                return false;
            }
        }
        return true;
    }
}
