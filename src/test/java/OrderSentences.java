/** Promises 10 to 15: the orders, the text, and the history. */
final class OrderSentences {
    private static final int UNKNOWN = Play.UNKNOWN;
    private static final int FULL = Play.FULL;
    private static final int NOT_POSSIBLE = Play.NOT_POSSIBLE;
    private static final int NONE = Play.NONE;

    private OrderSentences() {
    }

    static void all(Walk w) {
        perform(w);
        performReturns(w);
        type(w);
        clearText(w);
        undo(w);
        keep(w);
        restore(w);
    }

    private static void perform(Walk w) {
        ActSentences.promise(w, 10, "int perform()");
        w.at("Does the orders of the text, which stays, one after the other;");
        RiverCampaign x = Play.units(0, 9, 29, 1, 1, 31, 1, 9, 62);
        w.due("move, attack, move on, end, the other's move", Play.perform(x, "0>d4;0!e4;0>f4;.;2>h7"), 5);
        w.due("0 is on 32", x.unit(0, 2), 32);
        w.due("1 is gone", x.unit(1, 2), UNKNOWN);
        w.due("turns", x.count(0), 1);
        w.due("2 is on 61", x.unit(2, 2), 61);
        w.due("the text stays", x.count(13), 21);
        x.undo();
        w.due("the text does it again", x.perform(), 5);
        w.due("in another order", Play.perform(Play.units(0, 9, 29, 1, 1, 31), "0!e4;0>d4"), NOT_POSSIBLE);
        w.at("all of them, or none.");
        RiverCampaign y = Play.units(0, 9, 30, 1, 5, 31, 0, 1, 0);
        y.base(0, 35);
        w.due("the last one fails", Play.perform(y, "0!e4;0>d5;.;.;.;.;5>a1"), UNKNOWN);
        int[] due = {0, 9, 30, 4, 1};
        for (int what = 0; what < due.length; what++) {
            w.due("what " + what + " of 0", y.unit(0, what), due[what]);
        }
        w.due("strength of 1", y.unit(1, 1), 5);
        w.due("starving of 2", y.unit(2, 7), 0);
        w.due("turns", y.count(0), 0);
        w.due("the text stays, too", y.count(13), 22);
        w.due("the same without it", Play.perform(y, "0!e4;0>d5;.;.;.;."), 6);
        w.at("This is one act.");
        Play.act(w, Play.units(0, 5, 27), o -> Play.perform(o, "0>b4;0>c4;."), o -> o.unit(0, 2) * 9 + o.count(0));
        w.at("(An order that would return NONE does nothing.)");
        RiverCampaign z = Play.units(0, 5, 27);
        w.due("one that does nothing, and one that does", Play.perform(z, "0>a4;0>b4;0>b4"), 3);
        w.due("its hex", z.unit(0, 2), 28);
        w.due("its points", z.unit(0, 3), 3);
        w.due("none that does anything", Play.perform(z, "0>b4"), 1);
        w.due("its points then", z.unit(0, 3), 3);
    }

    private static void performReturns(Walk w) {
        w.at("Returns how many there are;");
        for (int orders = 1; orders <= 30; orders++) {
            w.due(orders + " orders", Play.perform(new RiverCampaign(), ".;".repeat(orders - 1) + "."), orders);
        }
        w.at("-100 minus the fault of the text if it has one (which is an error);");
        RiverCampaign x = Play.units(0, 5, 27);
        for (int fault = 0; fault < 60; fault++) {
            String ahead = ".;".repeat(fault / 2) + (fault % 2 == 0 ? "" : ".");
            w.due("fault at " + fault, Play.perform(new RiverCampaign(), ahead + "?"), -100 - fault);
        }
        w.due("the fault alone, not the error ahead of it", Play.perform(x, "7>a1;?"), -105);
        w.due("an error records nothing", x.count(12), 1);
        w.due("an error does nothing", Play.perform(x, "0>b4;?"), -105);
        w.due("its hex", x.unit(0, 2), 27);
        w.at("otherwise the error of the first one that has one when its turn comes.");
        w.due("unknown ahead of not possible", Play.perform(x, "1>a1;0>i7"), UNKNOWN);
        w.due("not possible ahead of unknown", Play.perform(x, "0>i7;1>a1"), NOT_POSSIBLE);
        w.due("not possible then", Play.perform(x, ".;0>b4"), NOT_POSSIBLE);
        w.due("possible then", Play.perform(x, "0>d4;.;.;0>h4"), 4);
        w.due("not an enemy yet", Play.perform(Play.units(0, 5, 27), "0!b4"), NOT_POSSIBLE);
        RiverCampaign y = Play.units(0, 9, 30, 1, 1, 31);
        w.due("gone when its turn comes", Play.perform(y, "0!e4;.;1>f4"), UNKNOWN);
        w.due("there when its turn comes", Play.perform(y, ".;1>f4;.;0>e4;0!f4"), 5);
    }

    private static void type(Walk w) {
        ActSentences.promise(w, 11, "int type(char character)");
        w.at("Types a character behind the text.");
        RiverCampaign x = new RiverCampaign();
        x.type('.');
        w.due("one order", x.perform(), 1);
        x.type(';');
        w.due("ends too early", x.perform(), -102);
        x.type('.');
        w.due("two orders", x.perform(), 2);
        w.due("no act", x.count(12), 2);
        w.at("- `character`: any character");
        for (int character = 0; character < 65536; character += 257) {
            RiverCampaign y = new RiverCampaign();
            w.due("type " + character, y.type((char) character), 1);
            w.due("perform", y.perform(), character == '.' ? 1 : isDigit(character) ? -101 : -100);
        }
        for (int character = 0; character < 256; character++) {
            RiverCampaign y = new RiverCampaign();
            w.due("type " + character, y.type((char) character), 1);
            w.due("perform", y.perform(), character == '.' ? 1 : isDigit(character) ? -101 : -100);
        }
        w.due("the last one", new RiverCampaign().type('\uffff'), 1);
        w.at("Returns the length of the text then;");
        RiverCampaign z = new RiverCampaign();
        for (int length = 1; length <= 60; length++) {
            w.due("length", z.type('x'), length);
        }
        w.at("FULL if it has 60 characters.");
        w.due("one more", z.type('x'), FULL);
        w.due("length", z.count(13), 60);
        z.clearText();
        w.due("room again", z.type('x'), 1);
    }

    private static boolean isDigit(int character) {
        return character >= '0' && character <= '9';
    }

    private static void clearText(Walk w) {
        ActSentences.promise(w, 12, "int clearText()");
        w.at("Empties the text.");
        RiverCampaign x = new RiverCampaign();
        Play.write(x, "0>a1");
        x.clearText();
        w.due("length", x.count(13), 0);
        w.due("no order", x.perform(), -100);
        w.due("the next one stands first", x.type('.'), 1);
        w.due("it alone", x.perform(), 1);
        w.at("Returns the length that it had.");
        for (int length = 0; length <= 60; length++) {
            RiverCampaign y = new RiverCampaign();
            for (int i = 0; i < length; i++) {
                y.type('x');
            }
            w.due("length", y.clearText(), length);
            w.due("length then", y.clearText(), 0);
            w.due("no act", y.count(12), 0);
        }
    }

    private static void undo(Walk w) {
        ActSentences.promise(w, 13, "int undo()");
        w.at("Removes and restores the latest state of the history.");
        RiverCampaign x = new RiverCampaign();
        for (int kind = 1; kind <= 2; kind++) {
            x.ground(5, kind);
        }
        w.due("states", x.count(12), 2);
        x.undo();
        w.due("states left", x.count(12), 1);
        w.due("the latest", x.hex(5, 0), 1);
        x.undo();
        w.due("the one ahead of it", x.hex(5, 0), 0);
        w.at("Returns the number of states that are left;");
        for (int acts = 1; acts <= 6; acts++) {
            RiverCampaign y = new RiverCampaign();
            for (int act = 0; act < acts; act++) {
                y.fort(act, 0);
            }
            w.due("left of " + acts, y.undo(), Math.min(acts, 4) - 1);
            w.due("forts", y.count(7), acts - 1);
        }
        w.at("NONE if the history is empty.");
        w.due("nothing done", new RiverCampaign().undo(), NONE);
        w.due("all undone", x.undo(), NONE);
        w.due("ground", x.hex(5, 0), 0);
    }

    private static void keep(Walk w) {
        ActSentences.promise(w, 14, "int keep()");
        w.at("Takes a snapshot of the state, in place of the one that was.");
        RiverCampaign x = Play.units(0, 5, 27);
        x.keep();
        x.move(0, 28);
        x.keep();
        x.move(0, 29);
        x.restore();
        w.due("the second one", x.unit(0, 2), 28);
        x.move(0, 30);
        x.restore();
        w.due("the second one still", x.unit(0, 2), 28);
        w.due("its points", x.unit(0, 3), 3);
        RiverCampaign y = new RiverCampaign();
        y.keep();
        w.due("no act", y.count(12), 0);
        w.at("Returns how many turns have ended.");
        for (int turns = 0; turns < 5; turns++) {
            w.due("turns", y.keep(), turns);
            y.endTurn();
        }
    }

    private static void restore(Walk w) {
        ActSentences.promise(w, 15, "int restore()");
        w.at("Restores the state of the snapshot, which stays.");
        RiverCampaign x = Play.units(0, 5, 27);
        x.keep();
        for (int i = 0; i < 3; i++) {
            x.move(0, 28 + i);
            x.place(1, 5, 0);
            x.restore();
            w.due("its hex", x.unit(0, 2), 27);
            w.due("its points", x.unit(0, 3), 4);
            w.due("nobody else", x.count(2), 1);
        }
        w.at("This is an act.");
        x.move(0, 28);
        Play.act(w, x, RiverCampaign::restore, o -> o.unit(0, 2));
        w.due("undone", x.unit(0, 2), 28);
        x.restore();
        w.due("states", x.count(12), 4);
        w.due("an act, though nothing changes", x.restore(), 0);
        w.due("undo it", x.undo(), 3);
        w.due("undo the other", x.undo(), 2);
        w.due("its hex", x.unit(0, 2), 28);
        w.at("Returns how many turns have ended then;");
        for (int turns = 0; turns < 4; turns++) {
            RiverCampaign y = new RiverCampaign();
            Play.endTurns(y, turns);
            y.keep();
            Play.endTurns(y, 2);
            w.due("turns", y.restore(), turns);
            w.due("turns told", y.count(0), turns);
        }
        w.at("NONE if there is no snapshot.");
        RiverCampaign z = new RiverCampaign();
        w.due("none", z.restore(), NONE);
        w.due("no act", z.count(12), 0);
        z.endTurn();
        w.due("none still", z.restore(), NONE);
        w.due("turns", z.count(0), 1);
    }
}
