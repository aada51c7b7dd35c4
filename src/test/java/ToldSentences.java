/** Promises 16 to 23: what is told; and what is not promised. */
final class ToldSentences {
    private static final int UNKNOWN = Play.UNKNOWN;
    private static final int BAD_VALUE = Play.BAD_VALUE;
    private static final int NOT_POSSIBLE = Play.NOT_POSSIBLE;
    private static final int NONE = Play.NONE;

    private ToldSentences() {
    }

    static void all(Walk w) {
        hex(w);
        hexSeen(w);
        beside(w);
        distance(w);
        unit(w);
        unitSupplied(w);
        cost(w);
        would(w);
        besieged(w);
        count(w);
        countOfHexes(w);
        notPromised(w);
    }

    /** 31 is a hill with a river to 32 and 22, a fort and a unit of the side 1, and 0 stands on 33. */
    private static RiverCampaign busy() {
        RiverCampaign x = Play.units(0, 5, 33, 1, 7, 31);
        x.ground(31, 2);
        x.ground(35, 1);
        x.river(31, 0, true);
        x.river(22, 5, true);
        x.fort(31, 1);
        x.fort(5, 0);
        return x;
    }

    private static void hex(Walk w) {
        ActSentences.promise(w, 16, "int hex(int hex, int what)");
        w.at("- `hex`: 0 to 62");
        Play.hexes(w, h -> new RiverCampaign().hex(h, 0));
        RiverCampaign x = busy();
        w.at("- `what`: 0 for its ground,");
        w.due("a hill", x.hex(31, 0), 2);
        w.due("forest", x.hex(35, 0), 1);
        w.due("plain", x.hex(30, 0), 0);
        w.at("1 for its rivers (as bits by directions),");
        w.due("right and up left", x.hex(31, 1), 1 | 4);
        w.due("left", x.hex(32, 1), 8);
        w.due("down right", x.hex(22, 1), 32);
        w.due("none", x.hex(30, 1), 0);
        w.at("2 for the side to which a fort there belongs (NONE without one),");
        w.due("of 1", x.hex(31, 2), 1);
        w.due("of 0", x.hex(5, 2), 0);
        w.due("none", x.hex(33, 2), NONE);
        w.at("3 for the unit that stands there (NONE without one),");
        w.due("1", x.hex(31, 3), 1);
        w.due("0", x.hex(33, 3), 0);
        w.due("none", x.hex(5, 3), NONE);
        w.due("none where one is gone", Play.oneIsGone().hex(22, 3), NONE);
        w.at("4 and 5 for whether it is in the zone of the side 0, 1,");
        int[] zoneOf0 = {0, 0, 0, 1, 0, 1, 0};
        int[] zoneOf1 = {0, 1, 0, 1, 0, 0, 0};
        for (int hex = 29; hex < 36; hex++) {
            w.due("of 0, " + hex, x.hex(hex, 4), zoneOf0[hex - 29]);
            w.due("of 1, " + hex, x.hex(hex, 5), zoneOf1[hex - 29]);
        }
    }

    private static void hexSeen(Walk w) {
        RiverCampaign x = busy();
        w.at("6 and 7 for whether the side 0, 1 sees it (each 1, otherwise 0),");
        int[] seenBy0 = {0, 0, 0, 0, 1, 1, 1, 1, 0};
        int[] seenBy1 = {0, 0, 1, 1, 1, 1, 1, 0, 0};
        for (int hex = 27; hex < 36; hex++) {
            w.due("by 0, " + hex, x.hex(hex, 6), seenBy0[hex - 27]);
            w.due("by 1, " + hex, x.hex(hex, 7), seenBy1[hex - 27]);
        }
        w.due("from the fort of 0", x.hex(4, 6), 1);
        w.due("not from the fort of 0", x.hex(4, 7), 0);
        w.at("8 for the hexes beside it (how many)");
        int[][] rows = {{0, 2}, {1, 4}, {8, 3}, {9, 5}, {17, 3}, {18, 3}, {26, 5}, {31, 6}, {45, 5}, {53, 3}, {54, 2},
            {58, 4}, {62, 3}};
        for (int[] row : rows) {
            w.due("beside " + row[0], x.hex(row[0], 8), row[1]);
        }
        w.at("Returns the number; UNKNOWN; BAD_VALUE.");
        Play.range(w, "what", 0, 8, BAD_VALUE, what -> new RiverCampaign().hex(31, what));
        w.due("no hex, no what", x.hex(63, 9), UNKNOWN);
        w.due("no hex, no what, below", x.hex(-1, -1), UNKNOWN);
    }

    private static void beside(Walk w) {
        ActSentences.promise(w, 17, "int beside(int hex, int direction)");
        w.at("- `hex`: 0 to 62");
        Play.hexes(w, h -> new RiverCampaign().beside(h, 0));
        w.at("- `direction`: 0 to 5");
        Play.range(w, "direction", 0, 5, BAD_VALUE, d -> new RiverCampaign().beside(0, d));
        w.at("Returns the hex in the direction; UNKNOWN; BAD_VALUE; NONE if there is none.");
        int[][] rows = {{31, 32, 23, 22, 30, 40, 41}, {40, 41, 31, 30, 39, 48, 49}, {0, 1, NONE, NONE, NONE, NONE, 9},
            {62, NONE, 53, 52, 61, NONE, NONE}, {27, 28, 19, 18, NONE, 36, 37}, {35, NONE, NONE, 26, 34, 44, NONE}};
        RiverCampaign x = new RiverCampaign();
        for (int[] row : rows) {
            for (int direction = 0; direction < 6; direction++) {
                w.due("from " + row[0] + " to " + direction, x.beside(row[0], direction), row[direction + 1]);
            }
        }
        w.due("no hex, no direction", x.beside(63, 6), UNKNOWN);
        w.due("no direction", x.beside(0, 6), BAD_VALUE);
    }

    private static void distance(Walk w) {
        ActSentences.promise(w, 18, "int distance(int one, int other)");
        w.at("- `one`: 0 to 62");
        Play.hexes(w, h -> new RiverCampaign().distance(h, 31));
        w.at("- `other`: 0 to 62");
        Play.hexes(w, h -> new RiverCampaign().distance(31, h));
        w.at("Returns the distance; UNKNOWN.");
        int[][] rows = {{31, 31, 0}, {31, 32, 1}, {31, 33, 2}, {0, 8, 8}, {0, 54, 6}, {0, 62, 11}, {8, 54, 11},
            {27, 35, 8}, {4, 58, 6}, {4, 62, 7}, {3, 57, 6}, {0, 17, 9}, {8, 9, 8}, {31, 22, 1}, {31, 13, 2},
            {31, 12, 2}, {31, 11, 3}, {31, 14, 2}, {31, 15, 3}};
        RiverCampaign x = new RiverCampaign();
        for (int[] row : rows) {
            w.due(row[0] + " and " + row[1], x.distance(row[0], row[1]), row[2]);
            w.due(row[1] + " and " + row[0], x.distance(row[1], row[0]), row[2]);
        }
        w.due("no hex twice", x.distance(-1, 63), UNKNOWN);
    }

    private static void unit(Walk w) {
        ActSentences.promise(w, 19, "int unit(int unit, int what)");
        w.at("- `unit`: a unit");
        for (int what = 0; what <= 9; what++) {
            int fixed = what;
            Play.units(w, u -> Play.oneIsGone().unit(u, fixed));
        }
        RiverCampaign x = busy();
        w.at("- `what`: 0 for its side,");
        w.due("of 0", x.unit(0, 0), 0);
        w.due("of 1", x.unit(1, 0), 1);
        w.at("1 for its strength,");
        w.due("of 0", x.unit(0, 1), 5);
        w.due("of 1", x.unit(1, 1), 7);
        w.at("2 for its hex,");
        w.due("of 0", x.unit(0, 2), 33);
        w.due("of 1", x.unit(1, 2), 31);
        w.at("3 for its points,");
        w.due("at first", x.unit(0, 3), 4);
        x.move(0, 25);
        w.due("less one", x.unit(0, 3), 3);
        w.due("of 1", x.unit(1, 3), 4);
        w.at("4 for whether it has its attack yet, whosever turn it is (1, otherwise 0),");
        RiverCampaign y = Play.units(0, 9, 31, 1, 9, 32);
        w.due("0, in its turn", y.unit(0, 4), 1);
        w.due("1, not in its turn", y.unit(1, 4), 1);
        y.attack(0, 32);
        w.due("0 has attacked", y.unit(0, 4), 0);
        w.due("1 was attacked", y.unit(1, 4), 1);
        y.endTurn();
        w.due("0, not in its turn", y.unit(0, 4), 0);
        y.endTurn();
        w.due("0, in its next turn", y.unit(0, 4), 1);
    }

    private static void unitSupplied(Walk w) {
        w.at("5 for whether it is supplied (1, otherwise 0),");
        RiverCampaign x = Play.units(0, 5, 29, 1, 5, 26);
        w.due("0", x.unit(0, 5), 1);
        w.due("1", x.unit(1, 5), 1);
        x.base(0, 62);
        w.due("0 then", x.unit(0, 5), 0);
        w.due("1 then", x.unit(1, 5), 1);
        w.at("6 for how many steps it is to the nearest source (NONE if it is not supplied),");
        w.due("0", x.unit(0, 6), NONE);
        w.due("1", x.unit(1, 6), 1);
        x.fort(33, 0);
        w.due("a fort", x.unit(0, 6), 4);
        x.fort(31, 0);
        w.due("a nearer fort", x.unit(0, 6), 2);
        x.base(0, 28);
        w.due("a nearer base", x.unit(0, 6), 1);
        x.fort(29, 0);
        w.due("its own hex", x.unit(0, 6), 0);
        w.at("7 for the turns for which it has starved,");
        RiverCampaign y = Play.units(0, 5, 8);
        for (int turns = 0; turns < 4; turns++) {
            w.due("turns", y.unit(0, 7), turns);
            Play.endTurns(y, 2);
        }
        y.base(0, 8);
        Play.endTurns(y, 1);
        w.due("supplied", y.unit(0, 7), 0);
        w.at("8 for how many hexes it can reach (its own one is none of them),");
        w.due("from the corner", Play.units(0, 5, 0).unit(0, 8), 18);
        w.due("less that of its own unit", Play.units(0, 5, 0, 0, 5, 1).unit(0, 8), 17);
        w.due("from the middle", Play.units(0, 5, 31).unit(0, 8), 50);
        for (int hex = 0; hex < 63; hex++) {
            RiverCampaign one = Play.units(hex % 2, 5, hex);
            int near = 0;
            for (int other = 0; other < 63; other++) {
                near += one.distance(hex, other) <= 4 ? 1 : 0;
            }
            w.due("from " + hex, one.unit(0, 8), near - 1);
        }
        w.due("shut in", Play.units(0, 5, 0, 1, 5, 1, 1, 5, 9).unit(0, 8), 0);
        w.due("not in its turn", Play.units(1, 5, 0).unit(0, 8), 18);
        w.at("9 for whether the enemy sees it (1, otherwise 0)");
        RiverCampaign z = Play.units(0, 5, 31, 1, 5, 33, 0, 5, 0);
        int[] seen = {1, 1, 0};
        for (int unit = 0; unit < 3; unit++) {
            w.due("unit " + unit, z.unit(unit, 9), seen[unit]);
        }
        z.ground(33, 1);
        w.due("in forest", z.unit(1, 9), 0);
        w.due("from forest", z.unit(0, 9), 1);
        z.fort(32, 0);
        w.due("in forest, from a fort", z.unit(1, 9), 1);
        w.at("Returns the number; UNKNOWN; BAD_VALUE.");
        Play.range(w, "what", 0, 9, BAD_VALUE, what -> Play.units(0, 5, 27).unit(0, what));
        w.due("no unit, no what", z.unit(3, 10), UNKNOWN);
    }

    private static void cost(Walk w) {
        ActSentences.promise(w, 20, "int cost(int unit, int hex)");
        w.at("Tells what it costs a unit to reach a hex.");
        RiverCampaign x = Play.units(0, 5, 27, 1, 5, 35);
        x.ground(29, 1);
        x.river(28, 3, true);
        w.due("a river", x.cost(0, 28), 2);
        w.due("around it, into forest", x.cost(0, 29), 4);
        w.due("the other one, not in its turn", x.cost(1, 34), 1);
        w.due("nothing changes", x.unit(0, 2), 27);
        w.at("- `unit`: a unit");
        Play.units(w, u -> Play.oneIsGone().cost(u, 40));
        w.at("- `hex`: 0 to 62");
        Play.hexes(w, h -> Play.units(0, 5, 31).cost(0, h));
        w.at("Returns the cost, 0 for its own hex;");
        w.due("its own", x.cost(0, 27), 0);
        w.due("that of the other", x.cost(1, 35), 0);
        w.due("shut in", Play.units(0, 5, 0, 1, 5, 1, 1, 5, 9).cost(0, 0), 0);
        w.at("UNKNOWN (unit or hex);");
        w.due("no unit, no hex", x.cost(2, 63), UNKNOWN);
        w.due("no unit", x.cost(2, 27), UNKNOWN);
        w.due("no hex", x.cost(0, -1), UNKNOWN);
        w.at("NONE if it cannot reach it (with its points).");
        w.due("too far", x.cost(1, 30), NONE);
        w.due("an enemy", x.cost(0, 35), NONE);
        x.move(0, 28);
        w.due("2 with 2 points", x.cost(0, 29), 2);
        w.due("3 with 2 points", x.cost(0, 30), NONE);
        w.due("its own hex again", x.cost(0, 27), 2);
    }

    private static void would(Walk w) {
        ActSentences.promise(w, 21, "int would(int unit, int hex, int what)");
        w.at("Tells what a fight would bring, whosever turn it is.");
        RiverCampaign x = Play.units(0, 6, 31, 1, 4, 32);
        for (int turn = 0; turn < 3; turn++) {
            w.due("0 and 1", x.would(0, 32, 3), 2);
            w.due("1 and 0", x.would(1, 31, 2), 2);
            w.due("nothing changes", x.unit(0, 1) * 10 + x.unit(1, 1), 64);
            x.endTurn();
        }
        x.endTurn();
        x.attack(0, 32);
        w.due("it has attacked", x.would(0, 32, 0), 12);
        w.at("- `unit`: a unit");
        Play.units(w, u -> Play.oneIsGone().would(u, 31, 0));
        w.at("- `hex`: 0 to 62");
        Play.hexes(w, h -> Play.units(0, 5, 31, 1, 5, 32).would(0, h, 0));
        RiverCampaign y = Play.units(0, 6, 31, 1, 3, 32, 0, 9, 30);
        y.fort(32, 1);
        y.ground(32, 1);
        w.at("- `what`: 0 for the power of the attack,");
        w.due("of 0", y.would(0, 32, 0), 12);
        w.due("of 1", y.would(1, 31, 0), 6);
        w.at("1 for that of the defence,");
        w.due("of 1", y.would(0, 32, 1), 14);
        w.due("of 0", y.would(1, 31, 1), 12);
        w.at("2 for the strength of the one that attacks then,");
        w.due("12 against 14", y.would(0, 32, 2), 5);
        w.due("6 against 12", y.would(1, 31, 2), 1);
        w.due("one that wins", Play.units(0, 6, 31, 1, 5, 32).would(0, 32, 2), 6);
        w.due("one that is gone", Play.units(0, 1, 31, 1, 9, 32).would(0, 32, 2), 0);
        w.at("3 for that of the one that is attacked then (0 if it is gone)");
        w.due("one that wins", y.would(0, 32, 3), 3);
        w.due("one that loses", Play.units(0, 6, 31, 1, 5, 32).would(0, 32, 3), 4);
        w.due("one that is gone", Play.units(0, 9, 31, 1, 1, 32).would(0, 32, 3), 0);
        w.at("Returns the number; UNKNOWN (unit or hex); BAD_VALUE;");
        Play.range(w, "what", 0, 3, BAD_VALUE, what -> Play.units(0, 5, 31, 1, 5, 32).would(0, 32, what));
        w.due("no unit, no hex, no what", y.would(3, 63, 4), UNKNOWN);
        w.due("no unit, no what", y.would(3, 31, 4), UNKNOWN);
        w.due("no what, nobody there", y.would(0, 0, 4), BAD_VALUE);
        w.at("NOT_POSSIBLE if no enemy stands there, or the hex is not beside its own one.");
        w.due("nobody", y.would(0, 40, 0), NOT_POSSIBLE);
        w.due("its own", y.would(0, 30, 0), NOT_POSSIBLE);
        w.due("itself", y.would(0, 31, 0), NOT_POSSIBLE);
        w.due("not beside", y.would(2, 32, 0), NOT_POSSIBLE);
    }

    private static void besieged(Walk w) {
        ActSentences.promise(w, 22, "int besieged(int hex)");
        w.at("Tells whether a fort is besieged: all hexes beside it are in the zone of the side "
            + "to which it does not belong, or units of that side stand on them.");
        for (int side = 0; side < 2; side++) {
            int enemy = 1 - side;
            RiverCampaign x = new RiverCampaign();
            x.fort(40, side);
            // Beside 40 lie 41, 31, 30, 39, 48, 49. A unit on 42 has 41 and 32 beside it.
            x.place(enemy, 1, 42);
            x.place(enemy, 1, 29);
            w.due("31, 48 and 49 are missing", x.besieged(40), 0);
            x.place(side, 9, 49);
            x.place(side, 9, 31);
            w.due("its own units besiege nothing", x.besieged(40), 0);
            x.undo();
            x.undo();
            x.place(enemy, 1, 48);
            w.due("31 is missing", x.besieged(40), 0);
            x.place(enemy, 1, 22);
            w.due("all are", x.besieged(40), 1);
            x.place(side, 9, 40);
            w.due("with a unit in it", x.besieged(40), 1);
            x.place(side, 9, 31);
            w.due("with a unit beside it", x.besieged(40), 1);
        }
        for (int alone : new int[] {41, 31, 30, 39, 48, 49}) {
            w.due(alone + " alone is missing", allButOne(alone).besieged(40), 0);
        }
        RiverCampaign y = new RiverCampaign();
        y.fort(0, 0);
        y.place(1, 5, 9);
        w.due("a unit and its zone at the edge", y.besieged(0), 1);
        w.at("- `hex`: 0 to 62");
        Play.hexes(w, h -> new RiverCampaign().besieged(h));
        w.at("Returns 1 if it is, otherwise 0; UNKNOWN; NONE if there is no fort.");
        w.due("it is", y.besieged(0), 1);
        y.fort(62, 1);
        w.due("it is not", y.besieged(62), 0);
        w.due("no hex", y.besieged(63), UNKNOWN);
        w.due("no fort", y.besieged(1), NONE);
        y.place(1, 5, 0);
        w.due("it changed hands", y.besieged(0), 0);
        y.fort(0, 2);
        w.due("it was pulled down", y.besieged(0), NONE);
    }

    /** A fort of 0 on 40, and units of 1 two steps off, so that one hex beside it alone is in no zone. */
    private static RiverCampaign allButOne(int alone) {
        RiverCampaign x = new RiverCampaign();
        x.fort(40, 0);
        for (int hex = 0; hex < 63; hex++) {
            if (x.distance(hex, 40) == 2 && x.distance(hex, alone) > 1) {
                x.place(1, 5, hex);
            }
        }
        return x;
    }

    private static void count(Walk w) {
        ActSentences.promise(w, 23, "int count(int what)");
        RiverCampaign x = Play.units(0, 9, 31, 1, 1, 32, 1, 5, 62, 0, 4, 0, 1, 7, 61);
        x.attack(0, 32);
        x.endTurn();
        w.at("- `what`: 0 for turns that have ended,");
        w.due("turns", x.count(0), 1);
        w.at("1 for the side whose turn it is,");
        w.due("side", x.count(1), 1);
        x.endTurn();
        w.due("turns then", x.count(0), 2);
        w.due("side then", x.count(1), 0);
        w.at("2 for units so far,");
        w.due("units", x.count(2), 5);
        w.at("3 and 4 for units of the side 0, 1,");
        w.due("of 0", x.count(3), 2);
        w.due("of 1, less the one that is gone", x.count(4), 2);
        w.at("5 and 6 for their strength together,");
        w.due("of 0", x.count(5), 13);
        w.due("of 1", x.count(6), 12);
        w.at("7 and 8 for forts of the side 0, 1,");
        w.due("of 0 at first", x.count(7), 0);
        x.fort(10, 0);
        x.fort(20, 1);
        x.fort(22, 1);
        w.due("of 0", x.count(7), 1);
        w.due("of 1", x.count(8), 2);
        x.move(0, 22);
        w.due("of 0, which took one", x.count(7), 2);
        w.due("of 1, which lost one", x.count(8), 1);
        w.at("9 for rivers,");
        w.due("at first", x.count(9), 0);
        x.river(31, 0, true);
        x.river(32, 0, true);
        w.due("two", x.count(9), 2);
        x.river(32, 3, false);
        w.due("one", x.count(9), 1);
    }

    private static void countOfHexes(Walk w) {
        w.at("10 and 11 for hexes that the side 0, 1 sees,");
        RiverCampaign x = Play.units(0, 5, 31);
        w.due("by 0", x.count(10), 19);
        w.due("by 1", x.count(11), 0);
        x.place(0, 5, 32);
        w.due("by two, each once", x.count(10), 24);
        x.fort(62, 1);
        w.due("by the fort of 1", x.count(11), 4);
        x.ground(53, 1);
        x.ground(33, 1);
        x.ground(34, 1);
        w.due("forest 1 from the fort", x.count(11), 4);
        w.due("forest 2 from a unit", x.count(10), 23);
        w.at("12 for the states in the history,");
        w.due("four", x.count(12), 4);
        x.undo();
        w.due("three", x.count(12), 3);
        w.due("none", new RiverCampaign().count(12), 0);
        w.at("13 for the length of the text,");
        Play.write(x, "0>a1");
        w.due("four", x.count(13), 4);
        x.clearText();
        w.due("none", x.count(13), 0);
        w.at("14 and 15 for the base of the side 0, 1");
        x.base(0, 5);
        x.base(1, 0);
        w.due("of 0", x.count(14), 5);
        w.due("of 1", x.count(15), 0);
        w.at("Returns the number; BAD_VALUE.");
        Play.range(w, "what", 0, 15, BAD_VALUE, what -> new RiverCampaign().count(what));
    }

    private static void notPromised(Walk w) {
        w.over("## Not promised How the state is held inside the object is free, as are the speed of each call, "
            + "the text of toString and the behaviour of equals and hashCode. Use of one object from several threads "
            + "at once is not promised to be safe. Nothing is promised beyond the answers and state changes described "
            + "above, and nothing about an object after its 512th call.");
    }
}
