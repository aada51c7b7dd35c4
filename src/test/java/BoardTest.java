/** Promises 1 to 5 and 16 to 18: a new object, the board, and what is told of it. */
public final class BoardTest {
    private static final Due DUE = new Due();

    public static void main(String[] args) {
        newObject();
        ground();
        river();
        riverNeighbours();
        fort();
        fortTakesTheSideOfItsUnit();
        base();
        hexNumbers();
        zones();
        sight();
        sightOfForts();
        beside();
        distance();
        DUE.end();
    }

    private static void newObject() {
        RiverCampaign x = new RiverCampaign();
        for (int hex = 0; hex < 63; hex++) {
            DUE.due("new hex(h, 0)", x.hex(hex, 0), 0);
            DUE.due("new hex(h, 1)", x.hex(hex, 1), 0);
            DUE.due("new hex(h, 2)", x.hex(hex, 2), RiverCampaign.NONE);
            DUE.due("new hex(h, 3)", x.hex(hex, 3), RiverCampaign.NONE);
        }
        for (int what = 0; what <= 13; what++) {
            DUE.due("new count(" + what + ")", x.count(what), 0);
        }
        DUE.due("new count(14)", x.count(14), 27);
        DUE.due("new count(15)", x.count(15), 35);
        DUE.due("new unit(0, 0)", x.unit(0, 0), RiverCampaign.UNKNOWN);
        DUE.due("new undo", x.undo(), RiverCampaign.NONE);
        DUE.due("new restore", x.restore(), RiverCampaign.NONE);
        DUE.due("new clearText", x.clearText(), 0);
    }

    private static void ground() {
        RiverCampaign x = new RiverCampaign();
        DUE.due("ground unknown before bad", x.ground(-1, 3), RiverCampaign.UNKNOWN);
        DUE.due("ground hex 63", x.ground(63, 0), RiverCampaign.UNKNOWN);
        DUE.due("ground kind 3", x.ground(0, 3), RiverCampaign.BAD_VALUE);
        DUE.due("ground kind -1", x.ground(0, -1), RiverCampaign.BAD_VALUE);
        DUE.due("ground same", x.ground(0, 0), RiverCampaign.NONE);
        DUE.due("ground errors record nothing", x.count(12), 0);
        DUE.due("ground to hill", x.ground(62, 2), 0);
        DUE.due("ground to forest", x.ground(62, 1), 2);
        DUE.due("ground to plain", x.ground(62, 0), 1);
        DUE.due("ground is told", x.hex(62, 0), 0);
        DUE.due("ground is an act", x.count(12), 3);
        DUE.due("ground undone", x.undo(), 2);
        DUE.due("ground before", x.hex(62, 0), 1);
    }

    private static void river() {
        RiverCampaign x = new RiverCampaign();
        DUE.due("river unknown before bad", x.river(63, 6, true), RiverCampaign.UNKNOWN);
        DUE.due("river hex -1", x.river(-1, 0, true), RiverCampaign.UNKNOWN);
        DUE.due("river direction 6", x.river(0, 6, true), RiverCampaign.BAD_VALUE);
        DUE.due("river direction -1", x.river(0, -1, true), RiverCampaign.BAD_VALUE);
        DUE.due("river off the board", x.river(0, 1, true), RiverCampaign.NOT_POSSIBLE);
        DUE.due("no river off the board", x.river(0, 3, false), RiverCampaign.NOT_POSSIBLE);
        DUE.due("river none to take", x.river(0, 0, false), RiverCampaign.NONE);
        DUE.due("river errors record nothing", x.count(12), 0);
        DUE.due("river first", x.river(0, 0, true), 1);
        DUE.due("river again", x.river(0, 0, true), RiverCampaign.NONE);
        DUE.due("river from the other", x.river(1, 3, true), RiverCampaign.NONE);
        DUE.due("river second", x.river(0, 5, true), 2);
        DUE.due("river bits", x.hex(0, 1), 1 | 32);
        DUE.due("river bits right", x.hex(1, 1), 8);
        DUE.due("river bits below", x.hex(9, 1), 4);
        DUE.due("river count", x.count(9), 2);
        DUE.due("river taken from the other", x.river(1, 3, false), 1);
        DUE.due("river bits then", x.hex(0, 1), 32);
        DUE.due("river is an act", x.count(12), 3);
        x.undo();
        DUE.due("river again by undo", x.hex(1, 1), 8);
    }

    private static void riverNeighbours() {
        for (int direction = 0; direction < 6; direction++) {
            for (int hex = 0; hex < 63; hex++) {
                RiverCampaign x = new RiverCampaign();
                int other = x.beside(hex, direction);
                int answer = x.river(hex, direction, true);
                DUE.due("river(" + hex + ", " + direction + ")", answer, other < 0 ? RiverCampaign.NOT_POSSIBLE : 1);
                if (other >= 0) {
                    DUE.due("this bank", x.hex(hex, 1), 1 << direction);
                    DUE.due("other bank", x.hex(other, 1), 1 << (direction + 3) % 6);
                }
            }
        }
    }

    private static void fort() {
        RiverCampaign x = new RiverCampaign();
        DUE.due("fort unknown before bad", x.fort(-1, 3), RiverCampaign.UNKNOWN);
        DUE.due("fort hex 63", x.fort(63, 0), RiverCampaign.UNKNOWN);
        DUE.due("fort side 3", x.fort(0, 3), RiverCampaign.BAD_VALUE);
        DUE.due("fort side -1", x.fort(0, -1), RiverCampaign.BAD_VALUE);
        DUE.due("fort none to pull down", x.fort(0, 2), RiverCampaign.NONE);
        DUE.due("fort of 0", x.fort(0, 0), 1);
        DUE.due("fort of 1", x.fort(62, 1), 2);
        DUE.due("fort is there already", x.fort(0, 0), RiverCampaign.NONE);
        DUE.due("fort of the other is there already", x.fort(0, 1), RiverCampaign.NONE);
        DUE.due("fort of 0 is told", x.hex(0, 2), 0);
        DUE.due("fort of 1 is told", x.hex(62, 2), 1);
        DUE.due("forts of 0", x.count(7), 1);
        DUE.due("forts of 1", x.count(8), 1);
        DUE.due("fort is an act", x.count(12), 2);
        DUE.due("fort pulled down", x.fort(0, 2), 1);
        DUE.due("no fort is told", x.hex(0, 2), RiverCampaign.NONE);
        DUE.due("fort undone", x.undo(), 2);
        DUE.due("fort again", x.hex(0, 2), 0);
    }

    private static void fortTakesTheSideOfItsUnit() {
        RiverCampaign x = new RiverCampaign();
        x.place(1, 5, 30);
        DUE.due("fort under a unit", x.fort(30, 0), 1);
        DUE.due("fort of the unit's side", x.hex(30, 2), 1);
        x.fort(31, 0);
        DUE.due("fort of 0 beside", x.hex(31, 2), 0);
        x.place(1, 5, 31);
        DUE.due("fort taken by placing", x.hex(31, 2), 1);
        x.endTurn();
        x.fort(33, 0);
        x.fort(34, 0);
        DUE.due("over a fort", x.move(1, 34), 1);
        DUE.due("fort taken by moving", x.hex(34, 2), 1);
        DUE.due("fort that was passed over", x.hex(33, 2), 0);
        DUE.due("fort that was left", x.hex(31, 2), 1);
    }

    private static void base() {
        RiverCampaign x = new RiverCampaign();
        DUE.due("base side 2", x.base(2, 0), RiverCampaign.UNKNOWN);
        DUE.due("base side -1", x.base(-1, 0), RiverCampaign.UNKNOWN);
        DUE.due("base hex 63", x.base(0, 63), RiverCampaign.UNKNOWN);
        DUE.due("base hex -1", x.base(0, -1), RiverCampaign.UNKNOWN);
        DUE.due("base there already", x.base(0, 27), RiverCampaign.NONE);
        DUE.due("base 1 there already", x.base(1, 35), RiverCampaign.NONE);
        DUE.due("base errors record nothing", x.count(12), 0);
        DUE.due("base moved", x.base(0, 62), 27);
        DUE.due("base moved on", x.base(0, 35), 62);
        DUE.due("base told", x.count(14), 35);
        DUE.due("other base told", x.count(15), 35);
        DUE.due("base 1 moved", x.base(1, 0), 35);
        DUE.due("base is an act", x.count(12), 3);
        x.undo();
        DUE.due("base back", x.count(15), 35);
    }

    private static void hexNumbers() {
        RiverCampaign x = new RiverCampaign();
        DUE.due("hex unknown before bad", x.hex(63, 9), RiverCampaign.UNKNOWN);
        DUE.due("hex -1", x.hex(-1, 0), RiverCampaign.UNKNOWN);
        DUE.due("hex what 9", x.hex(0, 9), RiverCampaign.BAD_VALUE);
        DUE.due("hex what -1", x.hex(0, -1), RiverCampaign.BAD_VALUE);
        x.place(0, 1, 62);
        x.place(1, 1, 0);
        DUE.due("hex unit 1", x.hex(0, 3), 1);
        DUE.due("hex unit 0", x.hex(62, 3), 0);
        DUE.due("hex no unit", x.hex(1, 3), RiverCampaign.NONE);
        // Corners, both ends of odd and of even rows, and the middle.
        int[] hexes = {0, 8, 54, 62, 9, 17, 18, 26, 4, 58, 31};
        int[] besides = {2, 3, 2, 3, 5, 3, 3, 5, 4, 4, 6};
        for (int i = 0; i < hexes.length; i++) {
            DUE.due("hex(" + hexes[i] + ", 8)", x.hex(hexes[i], 8), besides[i]);
        }
    }

    private static void zones() {
        RiverCampaign x = new RiverCampaign();
        x.place(0, 1, 31);
        x.place(1, 1, 62);
        int[] zone = {32, 23, 22, 30, 40, 41};
        for (int hex : zone) {
            DUE.due("zone of 0 at " + hex, x.hex(hex, 4), 1);
            DUE.due("zone of 1 at " + hex, x.hex(hex, 5), 0);
        }
        DUE.due("own hex is not in the zone", x.hex(31, 4), 0);
        DUE.due("two steps off", x.hex(33, 4), 0);
        DUE.due("zone of 1", x.hex(61, 5), 1);
        DUE.due("zone of 1 is not of 0", x.hex(61, 4), 0);
        x.place(0, 1, 32);
        DUE.due("own hex beside a fellow", x.hex(31, 4), 1);
    }

    private static void sight() {
        RiverCampaign x = new RiverCampaign();
        DUE.due("sees nothing", x.hex(31, 6), 0);
        x.place(0, 1, 31);
        DUE.due("sees itself", x.hex(31, 6), 1);
        DUE.due("sees 1 off", x.hex(32, 6), 1);
        DUE.due("sees 2 off", x.hex(33, 6), 1);
        DUE.due("sees 2 rows off", x.hex(12, 6), 1);
        DUE.due("does not see 3 off", x.hex(34, 6), 0);
        DUE.due("the other does not see", x.hex(31, 7), 0);
        DUE.due("19 hexes", x.count(10), 19);
        DUE.due("0 hexes", x.count(11), 0);
        x.ground(33, 1);
        x.ground(32, 1);
        x.ground(31, 1);
        DUE.due("no forest 2 off", x.hex(33, 6), 0);
        DUE.due("forest 1 off", x.hex(32, 6), 1);
        DUE.due("forest 0 off", x.hex(31, 6), 1);
        x.ground(33, 2);
        DUE.due("hill 2 off", x.hex(33, 6), 1);
        x.place(1, 1, 34);
        DUE.due("the other sees", x.hex(33, 7), 1);
        DUE.due("the other sees no forest", x.hex(32, 7), 0);
    }

    private static void sightOfForts() {
        RiverCampaign x = new RiverCampaign();
        x.fort(31, 1);
        x.ground(32, 1);
        DUE.due("fort sees itself", x.hex(31, 7), 1);
        DUE.due("fort sees forest 1 off", x.hex(32, 7), 1);
        DUE.due("fort does not see 2 off", x.hex(33, 7), 0);
        DUE.due("fort sees for its side", x.hex(31, 6), 0);
        DUE.due("fort sees 7", x.count(11), 7);
        DUE.due("fort sees none for the other", x.count(10), 0);
    }

    private static void beside() {
        RiverCampaign x = new RiverCampaign();
        DUE.due("beside unknown before bad", x.beside(63, 6), RiverCampaign.UNKNOWN);
        DUE.due("beside -1", x.beside(-1, 0), RiverCampaign.UNKNOWN);
        DUE.due("beside direction 6", x.beside(0, 6), RiverCampaign.BAD_VALUE);
        DUE.due("beside direction -1", x.beside(0, -1), RiverCampaign.BAD_VALUE);
        int[][] rows = {
            {31, 32, 23, 22, 30, 40, 41}, {22, 23, 13, 12, 21, 30, 31},
            {0, 1, -5, -5, -5, -5, 9}, {8, -5, -5, -5, 7, 16, 17},
            {17, -5, -5, 8, 16, 26, -5}, {9, 10, 1, 0, -5, 18, 19},
            {54, 55, 45, -5, -5, -5, -5}, {62, -5, 53, 52, 61, -5, -5},
        };
        for (int[] row : rows) {
            for (int direction = 0; direction < 6; direction++) {
                DUE.due("beside(" + row[0] + ", " + direction + ")", x.beside(row[0], direction), row[direction + 1]);
            }
        }
    }

    private static void distance() {
        RiverCampaign x = new RiverCampaign();
        DUE.due("distance to 63", x.distance(0, 63), RiverCampaign.UNKNOWN);
        DUE.due("distance from -1", x.distance(-1, 0), RiverCampaign.UNKNOWN);
        DUE.due("distance to itself", x.distance(5, 5), 0);
        DUE.due("distance in a row", x.distance(27, 35), 8);
        DUE.due("distance down", x.distance(0, 54), 6);
        DUE.due("distance across", x.distance(0, 62), 11);
        DUE.due("distance across the other way", x.distance(8, 54), 11);
        DUE.due("distance half right", x.distance(0, 17), 8 + 1);
        DUE.due("distance half left", x.distance(8, 9), 8);
    }
}
