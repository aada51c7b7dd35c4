/** Terms: ways, supply, and sight. */
final class WaySentences {
    private static final int NOT_POSSIBLE = Play.NOT_POSSIBLE;
    private static final int NONE = Play.NONE;

    private WaySentences() {
    }

    static void all(Walk w) {
        w.over("WAYS");
        steps(w);
        costs(w);
        enemies(w);
        zones(w);
        reach(w);
        w.over("SUPPLY");
        sources(w);
        freeHexes(w);
        w.over("SIGHT");
        sight(w);
    }

    private static void steps(Walk w) {
        w.at("A way goes from hex to hex beside one another.");
        for (int start = 0; start < 63; start++) {
            RiverCampaign x = Play.units(start % 2, 1, start);
            for (int hex = 0; hex < 63; hex++) {
                int steps = x.distance(start, hex);
                w.due("from " + start + " to " + hex, x.cost(0, hex), steps <= 4 ? steps : NONE);
            }
        }
    }

    /** Rivers all around a hex. */
    private static void moat(RiverCampaign x, int hex) {
        for (int direction = 0; direction < 6; direction++) {
            x.river(hex, direction, true);
        }
    }

    private static void costs(Walk w) {
        w.at("To enter a hex costs 1 point on plain, 2 in forest and on a hill, and 1 more over a river.");
        int[] dry = {1, 2, 2};
        int[] wet = {2, 3, 3};
        for (int kind = 0; kind < 3; kind++) {
            RiverCampaign x = Play.units(0, 5, 31);
            x.ground(32, kind);
            w.due("kind " + kind, x.cost(0, 32), dry[kind]);
            x.ground(31, 2);
            w.due("kind " + kind + ", from a hill", x.cost(0, 32), dry[kind]);
            moat(x, 32);
            w.due("kind " + kind + ", over a river", x.cost(0, 32), wet[kind]);
            moat(x, 31);
            w.due("kind " + kind + ", over a river again", x.cost(0, 32), wet[kind]);
            w.due("points left", x.move(0, 32), 4 - wet[kind]);
        }
        RiverCampaign y = Play.units(0, 5, 31);
        moat(y, 33);
        w.due("a river elsewhere", y.cost(0, 32), 1);
        y.fort(32, 1);
        w.due("a fort costs nothing", y.cost(0, 32), 1);
    }

    private static void enemies(Walk w) {
        w.at("A way does not enter a hex on which an enemy stands;");
        RiverCampaign x = Play.units(0, 5, 0, 1, 5, 1);
        w.due("to the enemy", x.cost(0, 1), NONE);
        w.due("move to the enemy", x.move(0, 1), NOT_POSSIBLE);
        w.due("over the enemy", x.cost(0, 2), NONE);
        w.due("the other to this one", x.cost(1, 0), NONE);
        RiverCampaign other = Play.units(1, 5, 0, 0, 5, 1);
        w.due("one of the side 1 to the enemy", other.cost(0, 1), NONE);
        w.due("one of the side 1 over the enemy", other.cost(0, 2), NONE);
        w.at("it may pass over own units, but not end on one;");
        RiverCampaign y = Play.units(0, 5, 0, 0, 5, 1, 0, 5, 9, 0, 5, 18, 0, 5, 10, 0, 5, 2);
        w.due("on one", y.cost(0, 1), NONE);
        w.due("move on one", y.move(0, 9), NOT_POSSIBLE);
        w.due("over one, on one", y.cost(0, 10), NONE);
        w.due("over two", y.cost(0, 3), 3);
        w.due("move over two", y.move(0, 3), 1);
        w.due("those stay", y.hex(1, 3), 1);
        RiverCampaign z = Play.units(1, 5, 0, 1, 5, 1, 1, 5, 9);
        w.due("of the side 1", z.cost(0, 2), 2);
    }

    private static void zones(Walk w) {
        w.at("it does not go on from a hex that is in the zone of the enemy, but for the hex where it begins.");
        // Both hexes beside 0 lie beside 10, and the way that begins on 0 is in no zone.
        RiverCampaign x = Play.units(0, 5, 0, 1, 5, 10);
        w.due("into the zone", x.cost(0, 1), 1);
        w.due("not on from there", x.cost(0, 2), NONE);
        w.due("nor from the other", x.cost(0, 18), NONE);
        w.due("all that it can reach", x.unit(0, 8), 2);
        w.due("move into the zone", x.move(0, 1), 3);
        w.due("on from there, where it begins", x.cost(0, 2), 1);
        w.due("not on from 2, in the zone", x.cost(0, 3), NONE);
        w.due("nor over its own in the zone", overItsOwnInAZone(), NONE);
        RiverCampaign y = Play.units(1, 5, 0, 0, 5, 10, 1, 5, 11);
        w.due("zones for the side 1", y.cost(0, 18), NONE);
        w.due("its own side's zone ends nothing", Play.units(0, 5, 0, 0, 5, 10).cost(0, 3), 3);
    }

    private static int overItsOwnInAZone() {
        RiverCampaign x = Play.units(0, 5, 0, 1, 5, 10, 0, 5, 1, 0, 5, 9);
        return x.cost(0, 2);
    }

    private static void reach(Walk w) {
        w.at("A unit can reach a hex on which no unit stands if there is a way there "
            + "that costs no more than its points;");
        RiverCampaign x = Play.units(0, 5, 27);
        for (int points = 4; points >= 0; points--) {
            int from = x.unit(0, 2);
            w.due("as far as its points", x.cost(0, from + points), points);
            w.due("a step more", x.cost(0, from + points + 1), NONE);
            w.due("move a step more", x.move(0, from + points + 1), NOT_POSSIBLE);
            w.due("move a step", points == 0 ? 0 : x.move(0, from + 1), Math.max(0, points - 1));
        }
        w.at("the cost is that of the cheapest one.");
        RiverCampaign y = Play.units(0, 5, 27);
        y.ground(28, 2);
        y.river(27, 0, true);
        w.due("around 28, which costs 3", y.cost(0, 29), 3);
        y.ground(19, 2);
        y.ground(37, 1);
        w.due("through 28 or around it", y.cost(0, 29), 4);
        y.ground(28, 0);
        w.due("through 28 over the river", y.cost(0, 29), 3);
        y.river(28, 3, false);
        w.due("through 28", y.cost(0, 29), 2);
        w.due("points left", y.move(0, 29), 2);
    }

    private static void sources(Walk w) {
        w.at("A unit is supplied if its hex, or a hex that is at most 6 steps from it by free hexes, is a source: "
            + "the base of its side, or a fort that belongs to its side.");
        for (int side = 0; side < 2; side++) {
            RiverCampaign x = Play.units(side, 5, 45);
            x.base(1 - side, 46);
            for (int far = 0; far < 9; far++) {
                x.base(side, 45 + far);
                supplied(w, x, far <= 6 ? far : NONE);
            }
            for (int far = 8; far >= 0; far--) {
                x.fort(45 + far, side);
                supplied(w, x, far <= 6 ? far : NONE);
            }
            RiverCampaign y = Play.units(side, 5, 45);
            y.base(side, 8);
            y.base(1 - side, 45);
            y.fort(46, 1 - side);
            supplied(w, y, NONE);
        }
    }

    private static void supplied(Walk w, RiverCampaign x, int steps) {
        w.due("supplied", x.unit(0, 5), steps == NONE ? 0 : 1);
        w.due("steps", x.unit(0, 6), steps);
    }

    private static void freeHexes(Walk w) {
        w.at("A hex is free for a side if no enemy stands on it, and it is not in the zone of the enemy, "
            + "or a unit of the side stands on it;");
        // The base 0 lies in the corner, behind 1 and 9.
        RiverCampaign x = Play.units(0, 5, 11);
        x.base(0, 0);
        supplied(w, x, 3);
        x.place(1, 1, 9);
        w.due("an enemy beside the base", x.unit(0, 6), NONE);
        x.place(0, 1, 0);
        w.due("1 is in the zone still", x.unit(0, 6), NONE);
        x.place(0, 1, 1);
        w.due("its own stand on 1 and on 0", x.unit(0, 6), 3);
        w.due("the one on 1", x.unit(3, 6), 1);
        RiverCampaign y = Play.units(1, 5, 31);
        y.base(1, 33);
        w.due("free for the side 1", y.unit(0, 6), 2);
        y.place(0, 1, 32);
        y.place(0, 1, 23);
        w.due("not with enemies on 32 and 23", y.unit(0, 6), NONE);
        w.at("all hexes of the steps, the last one too, have to be free;");
        RiverCampaign z = Play.units(0, 5, 31);
        z.base(0, 33);
        w.due("free", z.unit(0, 6), 2);
        z.place(1, 1, 35);
        w.due("all free still", z.unit(0, 6), 2);
        z.place(1, 1, 34);
        w.due("the last one is in the zone", z.unit(0, 6), NONE);
        z.place(0, 1, 33);
        w.due("its own stands there", z.unit(0, 6), 2);
        w.due("an enemy on the last one", enemyOnTheBase(), NONE);
        w.at("the hex of the unit itself need not be.");
        RiverCampaign v = Play.units(0, 5, 31, 1, 5, 30);
        v.fort(31, 0);
        w.due("in the zone, on its fort", v.unit(0, 6), 0);
        v.fort(31, 2);
        v.base(0, 33);
        w.due("in the zone, two steps from its base", v.unit(0, 6), 2);
    }

    private static int enemyOnTheBase() {
        RiverCampaign x = Play.units(0, 5, 31, 1, 5, 33);
        x.base(0, 33);
        return x.unit(0, 6);
    }

    private static void sight(Walk w) {
        w.at("A side sees a hex if its distance is at most 2 from a unit of the side,");
        seen(w, 31, 2, 19);
        seen(w, 0, 2, 7);
        seen(w, 62, 2, 8);
        w.at("or 1 from a fort that belongs to it;");
        for (int side = 0; side < 2; side++) {
            RiverCampaign x = new RiverCampaign();
            x.fort(31, side);
            for (int hex = 0; hex < 63; hex++) {
                w.due("hex " + hex, x.hex(hex, 6 + side), x.distance(31, hex) <= 1 ? 1 : 0);
                w.due("hex " + hex + " by the other", x.hex(hex, 7 - side), 0);
            }
            x.place(1 - side, 1, 31);
            w.due("a fort that changed hands", x.hex(32, 6 + side), 0);
        }
        w.at("a hex with forest only from a distance of 1, or 0.");
        RiverCampaign y = Play.units(0, 5, 31);
        y.fort(27, 0);
        for (int hex = 27; hex < 36; hex++) {
            y.ground(hex, 1);
        }
        int[] forest = {1, 1, 0, 1, 1, 1, 0, 0, 0};
        for (int hex = 27; hex < 36; hex++) {
            w.due("forest " + hex, y.hex(hex, 6), forest[hex - 27]);
        }
        y.ground(33, 2);
        w.due("a hill from 2", y.hex(33, 6), 1);
        y.ground(33, 0);
        w.due("plain from 2, over forest", y.hex(33, 6), 1);
        w.due("plain from 3", y.hex(25, 6), 0);
    }

    private static void seen(Walk w, int unitHex, int far, int all) {
        for (int side = 0; side < 2; side++) {
            RiverCampaign x = Play.units(side, 1, unitHex);
            for (int hex = 0; hex < 63; hex++) {
                w.due("hex " + hex, x.hex(hex, 6 + side), x.distance(unitHex, hex) <= far ? 1 : 0);
                w.due("hex " + hex + " by the other", x.hex(hex, 7 - side), 0);
            }
            w.due("together", x.count(10 + side), all);
        }
    }
}
