/** Promises 1 to 9: a new object, the board's acts, and the units' acts. */
final class ActSentences {
    private static final int UNKNOWN = Play.UNKNOWN;
    private static final int BAD_VALUE = Play.BAD_VALUE;
    private static final int FULL = Play.FULL;
    private static final int NOT_POSSIBLE = Play.NOT_POSSIBLE;
    private static final int NONE = Play.NONE;

    private ActSentences() {
    }

    static void all(Walk w) {
        newObject(w);
        ground(w);
        river(w);
        riverReturns(w);
        fort(w);
        fortReturns(w);
        base(w);
        place(w);
        placeReturns(w);
        move(w);
        moveReturns(w);
        attack(w);
        attackReturns(w);
        endTurn(w);
    }

    /** The heading of a promise and its method's line. */
    static void promise(Walk w, int number, String method) {
        String name = method.substring(method.indexOf(' ') + 1, method.indexOf('('));
        w.over("## Promise " + number + ": " + name);
        w.at("`" + method + "`:");
        FaceSentences.method(w, method);
    }

    private static void newObject(Walk w) {
        w.over("## Promise 1: A new object");
        w.at("`RiverCampaign()`: Creates a plain board without units.");
        RiverCampaign x = new RiverCampaign();
        for (int hex = 0; hex < 63; hex++) {
            w.due("ground", x.hex(hex, 0), 0);
            w.due("rivers", x.hex(hex, 1), 0);
            w.due("fort", x.hex(hex, 2), NONE);
            w.due("unit", x.hex(hex, 3), NONE);
        }
        for (int unit = 0; unit < 16; unit++) {
            w.due("unit " + unit, x.unit(unit, 0), UNKNOWN);
        }
        for (int what = 0; what <= 13; what++) {
            w.due("count " + what, x.count(what), 0);
        }
        x.place(0, 5, 31);
        w.due("another object", new RiverCampaign().count(2), 0);
    }

    private static void ground(Walk w) {
        promise(w, 2, "int ground(int hex, int kind)");
        w.at("Sets the ground of a hex.");
        RiverCampaign x = new RiverCampaign();
        x.ground(62, 2);
        w.due("that of the hex", x.hex(62, 0), 2);
        w.due("that of another", x.hex(61, 0), 0);
        w.at("This is an act.");
        Play.act(w, x, o -> o.ground(62, 1), o -> o.hex(62, 0));
        w.at("- `hex`: 0 to 62");
        Play.hexes(w, h -> new RiverCampaign().ground(h, 1));
        w.at("- `kind`: 0 to 2");
        Play.range(w, "kind", 0, 2, BAD_VALUE, k -> new RiverCampaign().ground(5, k));
        w.at("Returns the previous one;");
        RiverCampaign y = new RiverCampaign();
        int[] kinds = {1, 2, 0, 2, 1, 0};
        for (int i = 0; i < kinds.length; i++) {
            w.due("kind " + kinds[i], y.ground(5, kinds[i]), i == 0 ? 0 : kinds[i - 1]);
        }
        w.at("UNKNOWN; BAD_VALUE; NONE if it is so already.");
        for (int kind = 0; kind < 3; kind++) {
            y.ground(5, kind);
            w.due("the same", y.ground(5, kind), NONE);
            w.due("no hex and the same kind", y.ground(63, 0), UNKNOWN);
        }
        w.due("no hex, no kind", y.ground(-1, -1), UNKNOWN);
        w.due("no kind", y.ground(5, -1), BAD_VALUE);
    }

    private static void river(Walk w) {
        promise(w, 3, "int river(int hex, int direction, boolean is)");
        w.at("Lays a river between a hex and the one in a direction from it, or takes it away.");
        for (int direction = 0; direction < 6; direction++) {
            RiverCampaign x = new RiverCampaign();
            int other = x.beside(40, direction);
            x.river(40, direction, true);
            w.due("on this side", x.hex(40, 1), 1 << direction);
            w.due("on that side", x.hex(other, 1), 1 << (direction + 3) % 6);
            x.river(other, (direction + 3) % 6, false);
            w.due("on this side then", x.hex(40, 1), 0);
            w.due("on that side then", x.hex(other, 1), 0);
        }
        w.at("This is an act.");
        RiverCampaign y = new RiverCampaign();
        Play.act(w, y, o -> o.river(40, 1, true), o -> o.hex(31, 1));
        y.river(40, 1, true);
        Play.act(w, y, o -> o.river(40, 1, false), o -> o.hex(31, 1));
        w.at("- `hex`: 0 to 62");
        Play.hexes(w, h -> new RiverCampaign().river(h, 0, true));
        w.at("- `direction`: 0 to 5");
        Play.range(w, "direction", 0, 5, BAD_VALUE, d -> new RiverCampaign().river(31, d, true));
        Play.range(w, "direction", 0, 5, BAD_VALUE, d -> new RiverCampaign().river(31, d, false));
        w.at("- `is`: whether there is one then");
        w.due("true", y.river(0, 0, true), 2);
        w.due("true, where one is", y.river(0, 0, true), NONE);
        w.due("false", y.river(0, 0, false), 1);
        w.due("false, where none is", y.river(0, 0, false), NONE);
    }

    private static void riverReturns(Walk w) {
        w.at("Returns how many rivers there are then;");
        RiverCampaign x = new RiverCampaign();
        for (int hex = 0; hex < 8; hex++) {
            w.due("lay", x.river(hex, 0, true), hex + 1);
        }
        for (int hex = 8; hex >= 1; hex--) {
            w.due("take", x.river(hex, 3, false), hex - 1);
        }
        w.at("UNKNOWN (hex); BAD_VALUE (direction);");
        w.due("no hex, no direction", x.river(63, 6, true), UNKNOWN);
        w.due("no hex", x.river(-1, 0, false), UNKNOWN);
        w.due("no direction", x.river(0, 6, false), BAD_VALUE);
        w.at("NOT_POSSIBLE if no hex lies in the direction;");
        for (int hex = 0; hex < 63; hex++) {
            RiverCampaign y = new RiverCampaign();
            for (int direction = 0; direction < 6; direction++) {
                boolean none = y.beside(hex, direction) == NONE;
                w.is("at " + hex, none == (y.river(hex, direction, false) == NOT_POSSIBLE));
                w.is("at " + hex, none == (y.river(hex, direction, true) == NOT_POSSIBLE));
            }
        }
        w.at("NONE if it is so already.");
        w.due("none", x.river(31, 4, false), NONE);
        x.river(31, 4, true);
        w.due("one", x.river(31, 4, true), NONE);
        w.due("one, from the other hex", x.river(40, 1, true), NONE);
    }

    private static void fort(Walk w) {
        promise(w, 4, "int fort(int hex, int side)");
        w.at("Builds a fort for a side (of the unit that stands there, if any), or pulls one down.");
        for (int side = 0; side < 2; side++) {
            RiverCampaign x = Play.units(side, 5, 31);
            x.fort(30, side);
            w.due("for a side", x.hex(30, 2), side);
            x.fort(31, 1 - side);
            w.due("for the side of the unit", x.hex(31, 2), side);
            x.fort(32, 1 - side);
            w.due("no unit stands there", x.hex(32, 2), 1 - side);
            x.fort(31, 2);
            w.due("pulled down", x.hex(31, 2), NONE);
            w.due("the others stay", x.hex(30, 2) + x.hex(32, 2), 1);
        }
        w.at("This is an act.");
        RiverCampaign y = new RiverCampaign();
        Play.act(w, y, o -> o.fort(31, 1), o -> o.hex(31, 2));
        y.fort(31, 1);
        Play.act(w, y, o -> o.fort(31, 2), o -> o.hex(31, 2));
        w.at("- `hex`: 0 to 62");
        Play.hexes(w, h -> new RiverCampaign().fort(h, 0));
        Play.hexes(w, h -> new RiverCampaign().fort(h, 2));
        w.at("- `side`: 0 or 1, or 2 to pull it down");
        Play.range(w, "side", 0, 2, BAD_VALUE, s -> new RiverCampaign().fort(5, s));
    }

    private static void fortReturns(Walk w) {
        w.at("Returns how many forts there are then;");
        RiverCampaign x = new RiverCampaign();
        w.due("one of 0", x.fort(0, 0), 1);
        w.due("one of 1", x.fort(62, 1), 2);
        w.due("another of 1", x.fort(31, 1), 3);
        w.due("less one of 0", x.fort(0, 2), 2);
        w.due("less one of 1", x.fort(62, 2), 1);
        w.due("less all", x.fort(31, 2), 0);
        w.at("UNKNOWN (hex); BAD_VALUE (side);");
        w.due("no hex, no side", x.fort(63, 3), UNKNOWN);
        w.due("no side", x.fort(0, 3), BAD_VALUE);
        w.due("no side, below", x.fort(0, -1), BAD_VALUE);
        w.at("NONE if there is one already, or none to be pulled down.");
        w.due("none to be pulled down", x.fort(0, 2), NONE);
        x.fort(0, 1);
        w.due("one of its own", x.fort(0, 1), NONE);
        w.due("one of the other", x.fort(0, 0), NONE);
        w.due("which stays", x.hex(0, 2), 1);
    }

    private static void base(Walk w) {
        promise(w, 5, "int base(int side, int hex)");
        w.at("Moves the base of a side.");
        RiverCampaign x = new RiverCampaign();
        x.base(0, 5);
        w.due("of 0", x.count(14), 5);
        w.due("of 1", x.count(15), 35);
        x.base(1, 5);
        w.due("of 1 then", x.count(15), 5);
        w.at("This is an act.");
        Play.act(w, x, o -> o.base(0, 6), o -> o.count(14));
        Play.act(w, x, o -> o.base(1, 6), o -> o.count(15));
        w.at("- `side`: 0 or 1");
        Play.range(w, "side", 0, 1, UNKNOWN, s -> new RiverCampaign().base(s, 5));
        w.at("- `hex`: 0 to 62");
        Play.hexes(w, h -> new RiverCampaign().base(0, h));
        Play.hexes(w, h -> new RiverCampaign().base(1, h));
        w.at("Returns where it was;");
        RiverCampaign y = new RiverCampaign();
        w.due("of 0", y.base(0, 1), 27);
        w.due("of 1", y.base(1, 2), 35);
        w.due("of 0 again", y.base(0, 2), 1);
        w.due("of 1 again", y.base(1, 0), 2);
        w.due("from 0", y.base(1, 62), 0);
        w.at("UNKNOWN (side or hex); NONE if it is there already.");
        w.due("no side, no hex", y.base(2, 63), UNKNOWN);
        w.due("there already, of 0", y.base(0, 2), NONE);
        w.due("there already, of 1", y.base(1, 62), NONE);
        w.due("the other one is there", y.base(1, 2), 62);
    }

    private static void place(Walk w) {
        promise(w, 6, "int place(int side, int strength, int hex)");
        w.at("Places a unit.");
        RiverCampaign x = new RiverCampaign();
        x.place(1, 7, 62);
        int[] due = {1, 7, 62, 4, 1};
        for (int what = 0; what < due.length; what++) {
            w.due("what " + what, x.unit(0, what), due[what]);
        }
        w.due("it stands there", x.hex(62, 3), 0);
        w.due("it has not starved", x.unit(0, 7), 0);
        w.at("This is an act.");
        Play.act(w, x, o -> o.place(0, 5, 31), o -> o.count(2));
        w.at("- `side`: 0 or 1");
        Play.range(w, "side", 0, 1, UNKNOWN, s -> new RiverCampaign().place(s, 5, 31));
        w.at("- `strength`: 1 to 9");
        Play.range(w, "strength", 1, 9, BAD_VALUE, s -> new RiverCampaign().place(0, s, 31));
        w.at("- `hex`: 0 to 62");
        Play.hexes(w, h -> new RiverCampaign().place(0, 5, h));
    }

    private static void placeReturns(Walk w) {
        w.at("Returns its number;");
        RiverCampaign x = new RiverCampaign();
        for (int unit = 0; unit < 16; unit++) {
            w.due("number", x.place(unit / 8, 1, 62 - unit), unit);
        }
        w.at("UNKNOWN (side or hex); BAD_VALUE;");
        w.due("no side, no strength, full, taken", x.place(-1, 0, 62), UNKNOWN);
        w.due("no hex, no strength, full", x.place(0, 0, 63), UNKNOWN);
        w.due("no strength, full, taken", x.place(0, 0, 62), BAD_VALUE);
        w.due("no strength", new RiverCampaign().place(0, 10, 0), BAD_VALUE);
        w.at("FULL if there have been 16;");
        w.due("a seventeenth one", x.place(0, 1, 0), FULL);
        w.due("a seventeenth one, taken", x.place(0, 1, 62), FULL);
        x.undo();
        w.due("a sixteenth one", x.place(0, 1, 0), 15);
        w.due("a seventeenth one", x.place(0, 1, 1), FULL);
        w.at("NOT_POSSIBLE if a unit stands there.");
        RiverCampaign y = Play.units(0, 9, 31, 1, 1, 32);
        w.due("on its own", y.place(0, 5, 31), NOT_POSSIBLE);
        w.due("on the enemy", y.place(0, 5, 32), NOT_POSSIBLE);
        y.attack(0, 32);
        w.due("on the one that came", y.place(1, 5, 32), NOT_POSSIBLE);
        w.due("where none is any more", y.place(1, 5, 31), 2);
    }

    private static void move(Walk w) {
        promise(w, 7, "int move(int unit, int hex)");
        w.at("Moves a unit.");
        RiverCampaign x = Play.units(0, 5, 27);
        x.move(0, 29);
        w.due("its hex", x.unit(0, 2), 29);
        w.due("who stands there", x.hex(29, 3), 0);
        w.due("who stands where it was", x.hex(27, 3), NONE);
        w.due("its points", x.unit(0, 3), 2);
        w.due("its attack stays", x.unit(0, 4), 1);
        w.at("This is an act.");
        Play.act(w, x, o -> o.move(0, 30), o -> o.unit(0, 2));
        Play.act(w, x, o -> o.move(0, 31), o -> o.unit(0, 3));
        w.at("- `unit`: a unit");
        Play.units(w, u -> Play.oneIsGone().move(u, 40));
        w.at("- `hex`: 0 to 62");
        Play.hexes(w, h -> Play.units(0, 5, 31).move(0, h));
    }

    private static void moveReturns(Walk w) {
        w.at("Returns the points that it has left;");
        for (int far = 1; far <= 4; far++) {
            w.due("far " + far, Play.units(0, 5, 27).move(0, 27 + far), 4 - far);
        }
        w.at("UNKNOWN (unit or hex);");
        RiverCampaign x = Play.units(0, 5, 27, 1, 5, 35);
        w.due("no unit, no hex", x.move(2, 63), UNKNOWN);
        w.due("no unit", x.move(2, 0), UNKNOWN);
        w.due("no hex, not its turn", x.move(1, 63), UNKNOWN);
        w.at("NOT_POSSIBLE if it is not its side's turn, or it does not stand on the hex and cannot reach it;");
        w.due("not its turn", x.move(1, 34), NOT_POSSIBLE);
        w.due("not its turn, its own hex", x.move(1, 35), NOT_POSSIBLE);
        w.due("too far", x.move(0, 32), NOT_POSSIBLE);
        w.due("onto the enemy", x.move(0, 35), NOT_POSSIBLE);
        x.endTurn();
        w.due("its turn", x.move(1, 34), 3);
        w.due("not the turn of 0", x.move(0, 28), NOT_POSSIBLE);
        w.at("NONE if it stands there.");
        w.due("its own hex", x.move(1, 34), NONE);
        w.due("its own hex, shut in", Play.units(0, 5, 0, 1, 5, 1, 1, 5, 9).move(0, 0), NONE);
    }

    private static void attack(Walk w) {
        promise(w, 8, "int attack(int unit, int hex)");
        w.at("Attacks the enemy on a hex.");
        RiverCampaign x = Play.units(0, 6, 31, 1, 5, 32);
        x.attack(0, 32);
        w.due("the enemy loses", x.unit(1, 1), 4);
        w.due("this one does not", x.unit(0, 1), 6);
        w.due("its attack", x.unit(0, 4), 0);
        w.due("its points", x.unit(0, 3), 4);
        w.due("the enemy's attack", x.unit(1, 4), 1);
        w.at("This is an act.");
        Play.act(w, Play.units(0, 6, 31, 1, 5, 32), o -> o.attack(0, 32), o -> o.unit(1, 1));
        Play.act(w, Play.units(0, 9, 31, 1, 1, 32), o -> o.attack(0, 32), o -> o.unit(1, 1));
        Play.act(w, Play.units(0, 1, 31, 1, 9, 32), o -> o.attack(0, 32), o -> o.unit(0, 1));
        w.at("- `unit`: a unit");
        Play.units(w, u -> Play.oneIsGone().attack(u, 32));
        w.at("- `hex`: 0 to 62");
        Play.hexes(w, h -> Play.units(0, 5, 31, 1, 5, 32).attack(0, h));
    }

    private static void attackReturns(Walk w) {
        w.at("Returns the strength of the one that was attacked then (0 if it is gone);");
        w.due("one that loses 1", Play.units(0, 6, 31, 1, 5, 32).attack(0, 32), 4);
        w.due("one that loses 2", Play.units(0, 7, 31, 1, 5, 32).attack(0, 32), 3);
        w.due("one that loses nothing", Play.units(0, 5, 31, 1, 5, 32).attack(0, 32), 5);
        w.due("one that is gone", Play.units(0, 9, 31, 1, 1, 32).attack(0, 32), 0);
        w.at("UNKNOWN (unit or hex);");
        RiverCampaign x = Play.units(0, 9, 31, 1, 9, 32, 0, 9, 30, 1, 9, 22);
        w.due("no unit, no hex", x.attack(4, 63), UNKNOWN);
        w.due("no unit", x.attack(4, 32), UNKNOWN);
        w.due("no hex, not its turn", x.attack(1, -1), UNKNOWN);
        w.at("NOT_POSSIBLE if it is not its side's turn, it has attacked in this turn, no enemy stands there, "
            + "or the hex is not beside its own one.");
        w.due("not its turn", x.attack(1, 31), NOT_POSSIBLE);
        w.due("nobody there", x.attack(0, 40), NOT_POSSIBLE);
        w.due("its own there", x.attack(0, 30), NOT_POSSIBLE);
        w.due("itself there", x.attack(0, 31), NOT_POSSIBLE);
        w.due("not beside", x.attack(2, 32), NOT_POSSIBLE);
        w.due("all is right", x.attack(0, 32) >= 0 ? 1 : 0, 1);
        w.due("has attacked", x.attack(0, 32), NOT_POSSIBLE);
        w.due("has attacked another", x.attack(0, 22), NOT_POSSIBLE);
        Play.endTurns(x, 2);
        w.due("has not in this turn", x.attack(0, 22) >= 0 ? 1 : 0, 1);
    }

    private static void endTurn(Walk w) {
        promise(w, 9, "int endTurn()");
        w.at("Ends the turn.");
        RiverCampaign x = Play.units(0, 5, 27, 1, 5, 35);
        x.move(0, 28);
        x.endTurn();
        w.due("turns", x.count(0), 1);
        w.due("side", x.count(1), 1);
        w.at("This is an act.");
        Play.act(w, x, RiverCampaign::endTurn, o -> o.count(0));
        Play.act(w, x, RiverCampaign::endTurn, o -> o.unit(0, 3));
        w.at("Returns how many units are gone by that;");
        RiverCampaign y = Play.units(0, 1, 0, 0, 1, 2, 0, 2, 4, 1, 1, 62);
        y.base(0, 62);
        y.base(1, 1);
        int[] due = {0, 0, 2, 1, 1, 0, 0};
        for (int turn = 0; turn < due.length; turn++) {
            w.due("end " + turn, y.endTurn(), due[turn]);
        }
        w.at("FULL if 999 turns have ended.");
        RiverCampaign z = new RiverCampaign();
        Play.write(z, ".;.;.;.;.;.;.;.;.;.;.;.;.;.;.;.;.;.;.;.;.;.;.;.;.;.;.");
        for (int i = 0; i < 36; i++) {
            w.due("27 turns", z.perform(), 27);
        }
        w.due("26 more and one", z.count(0), 972);
        Play.write(z, ".;.;.;.;.;.;.;.;.;.;.;.;.;.;.;.;.;.;.;.;.;.;.;.;.;.");
        w.due("26 turns", z.perform(), 26);
        w.due("the last one", z.endTurn(), 0);
        w.due("one more", z.endTurn(), FULL);
        w.due("turns", z.count(0), 999);
        w.due("by an order", Play.perform(z, "."), FULL);
    }
}
