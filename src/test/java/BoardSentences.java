import java.util.Arrays;

/** Terms: the board, and units. */
final class BoardSentences {
    private static final int UNKNOWN = Play.UNKNOWN;
    private static final int NOT_POSSIBLE = Play.NOT_POSSIBLE;
    private static final int NONE = Play.NONE;

    private BoardSentences() {
    }

    static void all(Walk w) {
        w.over("## Terms THE BOARD");
        numbers(w);
        directions(w);
        besides(w);
        distances(w);
        grounds(w);
        rivers(w);
        forts(w);
        bases(w);
        w.over("UNITS");
        sixteen(w);
        oneUnit(w);
        zones(w);
        fortsUnderUnits(w);
        turns(w);
        anyOrder(w);
        aheadOfTheFirstTurn(w);
    }

    private static void numbers(Walk w) {
        w.at("The board has 9 columns (0 to 8) and 7 rows (0 to 6);");
        RiverCampaign x = new RiverCampaign();
        int known = 0;
        for (int hex = -200; hex < 200; hex++) {
            known += x.hex(hex, 0) == UNKNOWN ? 0 : 1;
        }
        w.due("hexes", known, 9 * 7);
        w.at("the hex in the column c and the row r is h = 9 * r + c.");
        for (int row = 0; row < 7; row++) {
            RiverCampaign y = new RiverCampaign();
            int hex = 9 * row;
            for (int column = 0; column < 8; column++) {
                w.due("right of column " + column, y.beside(hex, 0), 9 * row + column + 1);
                hex = y.beside(hex, 0);
            }
            w.due("right of the last column", y.beside(hex, 0), NONE);
        }
        RiverCampaign z = Play.units(0, 1, 9 * 4 + 5);
        w.due("an order to the column 6 and the row 3", Play.perform(z, "0>g4"), 1);
        w.due("its hex", z.unit(0, 2), 9 * 3 + 6);
    }

    private static void directions(Walk w) {
        w.at("The hexes of an odd row lie half a hex to the right.");
        RiverCampaign x = new RiverCampaign();
        w.due("up left of 13, in the row 1", x.beside(13, 2), 4);
        w.due("up right of 13", x.beside(13, 1), 5);
        w.due("down left of 4, in the row 0", x.beside(4, 4), 12);
        w.due("down right of 4", x.beside(4, 5), 13);
        w.at("The directions are: 0 right (c + 1 in the same row), 1 up right, 2 up left, 3 left, 4 down left, "
            + "5 down right (up is the row r - 1).");
        int[] around40 = {41, 31, 30, 39, 48, 49};
        int[] around31 = {32, 23, 22, 30, 40, 41};
        for (int direction = 0; direction < 6; direction++) {
            w.due("from 40 to " + direction, x.beside(40, direction), around40[direction]);
            w.due("from 31 to " + direction, x.beside(31, direction), around31[direction]);
        }
        w.at("In an even row, up right and down right are the column c, up left and down left the column c - 1 "
            + "of the other row;");
        slants(w, 0, 0, -1);
        w.at("in an odd row, up right and down right are the column c + 1, up left and down left the column c.");
        slants(w, 1, 1, 0);
    }

    private static void slants(Walk w, int firstRow, int toTheRight, int toTheLeft) {
        RiverCampaign x = new RiverCampaign();
        for (int row = firstRow; row < 7; row += 2) {
            for (int column = 0; column < 9; column++) {
                int hex = 9 * row + column;
                w.due("up right of " + hex, x.beside(hex, 1), at(column + toTheRight, row - 1));
                w.due("up left of " + hex, x.beside(hex, 2), at(column + toTheLeft, row - 1));
                w.due("down left of " + hex, x.beside(hex, 4), at(column + toTheLeft, row + 1));
                w.due("down right of " + hex, x.beside(hex, 5), at(column + toTheRight, row + 1));
            }
        }
    }

    private static int at(int column, int row) {
        return column < 0 || column > 8 || row < 0 || row > 6 ? NONE : 9 * row + column;
    }

    private static boolean areBeside(RiverCampaign x, int one, int other) {
        for (int direction = 0; direction < 6; direction++) {
            if (x.beside(one, direction) == other) {
                return true;
            }
        }
        return false;
    }

    private static void besides(Walk w) {
        w.at("Two hexes are beside one another if one lies in a direction from the other.");
        for (int one = 0; one < 63; one++) {
            for (int other = 0; other < 63; other++) {
                if (one == other) {
                    continue;
                }
                RiverCampaign x = Play.units(0, 1, one, 1, 1, other);
                boolean beside = areBeside(x, one, other);
                w.is("as from the other", beside == areBeside(x, other, one));
                w.is("fight of " + one + " and " + other, beside == (x.would(0, other, 3) >= 0));
                w.due("zone of " + one + " at " + other, x.hex(other, 4), beside ? 1 : 0);
            }
        }
    }

    private static void distances(Walk w) {
        w.at("The distance of two hexes is the least number of steps from one to another that is beside it, "
            + "on the board.");
        for (int one = 0; one < 63; one++) {
            RiverCampaign x = new RiverCampaign();
            int[] steps = stepsFrom(one);
            for (int other = 0; other < 63; other++) {
                w.due("from " + one + " to " + other, x.distance(one, other), steps[other]);
                w.due("from " + other + " to " + one, x.distance(other, one), steps[other]);
            }
        }
    }

    private static int[] stepsFrom(int start) {
        int[] steps = new int[63];
        Arrays.fill(steps, -1);
        steps[start] = 0;
        for (int done = 0; done < 20; done++) {
            RiverCampaign x = new RiverCampaign();
            for (int hex = 0; hex < 63; hex++) {
                for (int direction = 0; direction < 6 && steps[hex] == done; direction++) {
                    int next = x.beside(hex, direction);
                    if (next != NONE && steps[next] < 0) {
                        steps[next] = done + 1;
                    }
                }
            }
        }
        return steps;
    }

    private static void grounds(Walk w) {
        w.at("The ground of a hex is 0 plain (at first), 1 forest, or 2 hill.");
        RiverCampaign x = Play.units(0, 5, 31);
        for (int hex = 0; hex < 63; hex++) {
            w.due("at first, " + hex, x.hex(hex, 0), 0);
        }
        int[] costs = {1, 2, 2};
        int[] seen = {1, 0, 1};
        for (int kind = 0; kind < 3; kind++) {
            x.ground(32, kind);
            x.ground(33, kind);
            w.due("ground", x.hex(32, 0), kind);
            w.due("cost of " + kind, x.cost(0, 32), costs[kind]);
            w.due("sight of " + kind, x.hex(33, 6), seen[kind]);
            w.due("the one beside it stays", x.hex(30, 0), 0);
        }
    }

    private static void rivers(Walk w) {
        w.at("Between two hexes that are beside one another there may be a river (none at first).");
        RiverCampaign x = new RiverCampaign();
        w.due("none at first", x.count(9), 0);
        for (int hex = 0; hex < 63; hex++) {
            w.due("none at " + hex, x.hex(hex, 1), 0);
        }
        int rivers = 0;
        for (int hex = 0; hex < 63; hex++) {
            for (int direction = 0; direction < 3; direction++) {
                boolean may = x.beside(hex, direction) != NONE;
                rivers += may ? 1 : 0;
                w.due("river at " + hex, x.river(hex, direction, true), may ? rivers : NOT_POSSIBLE);
            }
        }
    }

    private static void forts(Walk w) {
        w.at("A hex may have a fort (none at first), which belongs to a side, 0 or 1.");
        RiverCampaign x = new RiverCampaign();
        for (int hex = 0; hex < 63; hex++) {
            w.due("none at " + hex, x.hex(hex, 2), NONE);
            w.due("build one", x.fort(hex, hex % 2), hex + 1);
            w.due("its side", x.hex(hex, 2), hex % 2);
        }
        w.due("of 0", x.count(7), 32);
        w.due("of 1", x.count(8), 31);
    }

    private static void bases(Walk w) {
        w.at("Each side has one base, a hex (the hex 27 for the side 0, 35 for the side 1, at first).");
        RiverCampaign x = Play.units(0, 5, 27, 1, 5, 35);
        w.due("of 0", x.count(14), 27);
        w.due("of 1", x.count(15), 35);
        w.due("source of 0", x.unit(0, 6), 0);
        w.due("source of 1", x.unit(1, 6), 0);
        x.base(0, 20);
        w.due("of 0 then", x.count(14), 20);
        w.due("of 1 still", x.count(15), 35);
        w.due("one base: the first one is none any more", x.unit(0, 6), 2);
        w.due("source of 1 still", x.unit(1, 6), 0);
    }

    private static void sixteen(Walk w) {
        w.at("There are at most 16 units ever, numbered from 0.");
        RiverCampaign x = Play.units(1, 1, 1);
        x.place(0, 9, 0);
        w.due("the first one is gone", x.attack(1, 1), 0);
        for (int unit = 2; unit < 16; unit++) {
            w.due("number", x.place(unit % 2, 1, 20 + 3 * (unit - 2)), unit);
        }
        w.due("one more", x.place(0, 1, 8), Play.FULL);
        w.due("so far", x.count(2), 16);
        w.due("still there", x.count(3) + x.count(4), 15);
    }

    private static void oneUnit(Walk w) {
        w.at("A unit belongs to a side, has a strength (1 to 9), stands on a hex, or is gone;");
        for (int strength = 1; strength <= 9; strength++) {
            RiverCampaign x = Play.units(strength % 2, strength, 5 * strength);
            w.due("side", x.unit(0, 0), strength % 2);
            w.due("strength", x.unit(0, 1), strength);
            w.due("hex", x.unit(0, 2), 5 * strength);
        }
        w.due("is gone", Play.oneIsGone().unit(2, 2), UNKNOWN);
        w.due("none of strength 0", new RiverCampaign().place(0, 0, 0), Play.BAD_VALUE);
        w.due("none of strength 10", new RiverCampaign().place(0, 10, 0), Play.BAD_VALUE);
        w.at("no two units stand on one hex.");
        RiverCampaign x = Play.units(0, 9, 31, 0, 5, 32, 1, 9, 22);
        w.due("place on its own", x.place(0, 1, 31), NOT_POSSIBLE);
        w.due("place on the other", x.place(1, 1, 31), NOT_POSSIBLE);
        w.due("move onto its own", x.move(0, 32), NOT_POSSIBLE);
        w.due("move onto the other", x.move(0, 22), NOT_POSSIBLE);
        w.due("attack without a hex won", x.attack(0, 22), 9);
        w.due("the one stays", x.hex(31, 3), 0);
        w.due("the other stays", x.hex(22, 3), 2);
    }

    private static void zones(Walk w) {
        w.at("The zone of a side is all hexes that are beside a unit of it.");
        RiverCampaign x = Play.units(0, 1, 0, 0, 1, 13, 1, 1, 14);
        int[] of0 = {1, 9, 14, 5, 4, 12, 22, 23};
        int[] of1 = {15, 6, 5, 13, 23, 24};
        for (int hex = 0; hex < 63; hex++) {
            w.due("zone of 0 at " + hex, x.hex(hex, 4), in(hex, of0));
            w.due("zone of 1 at " + hex, x.hex(hex, 5), in(hex, of1));
        }
    }

    private static int in(int hex, int[] hexes) {
        return Arrays.stream(hexes).anyMatch(h -> h == hex) ? 1 : 0;
    }

    private static void fortsUnderUnits(Walk w) {
        w.at("A fort on which a unit stands belongs to the side of the unit, also when that has gone on "
            + "(one that only passes over it changes nothing).");
        RiverCampaign x = Play.units(0, 9, 27, 1, 1, 32);
        x.fort(27, 1);
        x.fort(29, 1);
        x.fort(30, 1);
        x.fort(31, 1);
        x.fort(32, 0);
        w.due("built under it", x.hex(27, 2), 0);
        w.due("built under the other", x.hex(32, 2), 1);
        w.due("over 28 and 29 to 30", x.move(0, 30), 1);
        w.due("passed over", x.hex(29, 2), 1);
        w.due("gone on from", x.hex(27, 2), 0);
        w.due("stood upon", x.hex(30, 2), 0);
        w.due("to 31", x.move(0, 31), 0);
        w.due("gone on from 30", x.hex(30, 2), 0);
        w.due("the attack wins the hex", x.attack(0, 32), 0);
        w.due("the fort there", x.hex(32, 2), 0);
        w.due("the fort behind", x.hex(31, 2), 0);
        w.due("placed on one", x.place(1, 1, 29), 2);
        w.due("the fort under it", x.hex(29, 2), 1);
        w.due("placed on one of the other", x.place(1, 1, 27), 3);
        w.due("the fort under that", x.hex(27, 2), 1);
    }

    private static void turns(Walk w) {
        w.at("It is the turn of a side, of 0 at first.");
        RiverCampaign x = Play.units(0, 9, 30, 1, 9, 31);
        w.due("at first", x.count(1), 0);
        w.due("the other can't attack", x.attack(1, 30), NOT_POSSIBLE);
        w.due("it can move", x.move(0, 22), 3);
        w.due("it can attack", x.attack(0, 31), 9);
        w.at("At the beginning of a turn each unit of the side has 4 points, and may attack once "
            + "(units of the other side keep what they have).");
        x.endTurn();
        w.due("side", x.count(1), 1);
        w.due("points of 0 stay", x.unit(0, 3), 3);
        w.due("attack of 0 stays", x.unit(0, 4), 0);
        w.due("points of 1", x.unit(1, 3), 4);
        w.due("1 attacks", x.attack(1, 22) >= 0 ? 1 : 0, 1);
        w.due("but once", x.attack(1, 22), NOT_POSSIBLE);
        w.due("1 moves", x.move(1, 23), 3);
        x.endTurn();
        w.due("points of 0", x.unit(0, 3), 4);
        w.due("attack of 0", x.unit(0, 4), 1);
        w.due("points of 1 stay", x.unit(1, 3), 3);
        w.due("attack of 1 stays", x.unit(1, 4), 0);
        Play.endTurns(x, 2);
        w.due("4 points, not 8", x.unit(0, 3), 4);
        w.due("one attack, not two", x.unit(0, 4), 1);
    }

    private static void anyOrder(Walk w) {
        w.at("It may move and attack in any order, and move as often as it has points.");
        RiverCampaign x = Play.units(0, 9, 29, 1, 9, 31);
        w.due("move", x.move(0, 30), 3);
        w.due("attack", x.attack(0, 31), 9);
        w.due("move again", x.move(0, 22), 2);
        w.due("move again", x.move(0, 23), 1);
        w.due("move again", x.move(0, 24), 0);
        w.due("no points", x.move(0, 23), NOT_POSSIBLE);
        RiverCampaign y = Play.units(0, 9, 30, 1, 9, 31);
        w.due("attack first", y.attack(0, 31), 9);
        w.due("move then", y.move(0, 21), 3);
        RiverCampaign z = Play.units(0, 9, 26, 1, 9, 31);
        w.due("all points first", Play.perform(z, "0>h3;0>g3;0>f3;0>f3"), 4);
        w.due("one is left", z.move(0, 32), 0);
        w.due("attack without points", z.attack(0, 31), 9);
    }

    private static void aheadOfTheFirstTurn(Walk w) {
        w.at("(The side 0 has so ahead of its first turn; a unit that is placed has so, too.)");
        for (int turn = 0; turn < 3; turn++) {
            for (int side = 0; side < 2; side++) {
                RiverCampaign x = new RiverCampaign();
                Play.endTurns(x, turn);
                x.place(side, 5, 31);
                w.due("points, placed in the turn " + turn, x.unit(0, 3), 4);
                w.due("attack, placed in the turn " + turn, x.unit(0, 4), 1);
            }
        }
        w.due("moves in the first turn", Play.units(0, 5, 31).move(0, 32), 3);
        RiverCampaign y = Play.units(0, 5, 31, 1, 5, 32);
        w.due("attacks in the first turn", y.attack(0, 32), 5);
    }
}
