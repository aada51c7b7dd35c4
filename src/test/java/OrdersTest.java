/** Promises 10 to 15 and 22 to 23: texts, history, sieges and counts. */
public final class OrdersTest {
    private static final Due DUE = new Due();

    public static void main(String[] args) {
        type();
        faults();
        performOrders();
        performAllOrNone();
        performOfNothing();
        undo();
        snapshot();
        besieged();
        count();
        DUE.end();
    }

    private static void write(RiverCampaign x, String text) {
        x.clearText();
        for (int i = 0; i < text.length(); i++) {
            x.type(text.charAt(i));
        }
    }

    private static int perform(RiverCampaign x, String text) {
        write(x, text);
        return x.perform();
    }

    private static void type() {
        RiverCampaign x = new RiverCampaign();
        DUE.due("clear nothing", x.clearText(), 0);
        for (int i = 1; i <= 60; i++) {
            DUE.due("type " + i, x.type((char) (i * 1000)), i);
        }
        DUE.due("type 61", x.type('.'), RiverCampaign.FULL);
        DUE.due("length", x.count(13), 60);
        DUE.due("typing is no act", x.count(12), 0);
        DUE.due("clear", x.clearText(), 60);
        DUE.due("length then", x.count(13), 0);
        DUE.due("type again", x.type('.'), 1);
        DUE.due("perform", x.perform(), 1);
        DUE.due("text stays", x.count(13), 1);
        x.undo();
        DUE.due("text is not undone", x.count(13), 1);
        x.keep();
        x.clearText();
        x.restore();
        DUE.due("text is not restored", x.count(13), 0);
    }

    private static void faults() {
        RiverCampaign x = new RiverCampaign();
        String[] texts = {"", ";", " .", ".;", ".;;", "..", ". ", "x", ">", "!a1", "00>a1", "01>a1", "16>a1", "19",
            "20>a1", "1", "15", "0a1", "0>", "0>j1", "0>A1", "0>1", "0>a", "0>a0", "0>a8", "0>a9", "0>a1;", "0>a11",
            "0>a1.", "0>a1 ;.", "0>a1;1!i7;.x", "10>a1;100", ".;0?a1", "\u0130>a1", "0>\u0161", "/", ":", "0>`1",
            "1:", "1/", "9>i7;15!a"};
        int[] due = {0, 0, 0, 2, 2, 1, 1, 0, 0, 0, 1, 1, 1, 1,
            1, 1, 2, 1, 2, 2, 2, 2, 3, 3, 3, 3, 5, 4,
            4, 4, 11, 8, 3, 0, 2, 0, 0, 2,
            1, 1, 9};
        for (int i = 0; i < texts.length; i++) {
            DUE.due("perform \"" + texts[i] + "\"", perform(x, texts[i]), -100 - due[i]);
        }
        DUE.due("faults record nothing", x.count(12), 0);
        DUE.due("faults end no turn", x.count(0), 0);
    }

    private static void performOrders() {
        RiverCampaign x = new RiverCampaign();
        // The units 0 to 4 in the first row, 5 to 9 in the third, 10 to 14 in the fifth, and 15 of the other side.
        for (int unit = 0; unit < 15; unit++) {
            x.place(0, 5, unit / 5 * 18 + unit % 5);
        }
        x.place(1, 2, 62);
        DUE.due("one digit", perform(x, "9>i3"), 1);
        DUE.due("where 9 stands", x.unit(9, 2), 26);
        DUE.due("two digits", perform(x, "10>a6;14>g5"), 2);
        DUE.due("where 10 stands", x.unit(10, 2), 45);
        DUE.due("where 14 stands", x.unit(14, 2), 42);
        DUE.due("15 in its turn", perform(x, ".;15>h6;15!g5;."), RiverCampaign.NOT_POSSIBLE);
        DUE.due("15 attacks", perform(x, ".;15>g6;15!g5;."), 4);
        DUE.due("15 is gone", x.count(6), 0);
        DUE.due("turns", x.count(0), 2);
        DUE.due("one act", x.undo(), 3);
        DUE.due("turns back", x.count(0), 0);
        DUE.due("where 15 stood", x.unit(15, 2), 62);
        DUE.due("unit 15 is back", x.unit(15, 1), 2);
        RiverCampaign y = new RiverCampaign();
        y.place(0, 9, 61);
        y.place(1, 2, 62);
        DUE.due("attack the last hex", perform(y, "0!i7"), 1);
        DUE.due("gone to it", y.unit(0, 2), 62);
        DUE.due("move and nothing", perform(y, "0>h7;0>h7"), 2);
        DUE.due("back again", y.unit(0, 2), 61);
        DUE.due("three points", y.unit(0, 3), 3);
        DUE.due("attack nobody", perform(y, ".;.;0!i7"), RiverCampaign.NOT_POSSIBLE);
        DUE.due("no turns", y.count(0), 0);
    }

    private static void performAllOrNone() {
        RiverCampaign x = new RiverCampaign();
        x.place(0, 5, 0);
        DUE.due("the first error", perform(x, "0>b1;.;0>a1;1>a1"), RiverCampaign.NOT_POSSIBLE);
        DUE.due("nothing moved", x.unit(0, 2), 0);
        DUE.due("points", x.unit(0, 3), 4);
        DUE.due("no turn ended", x.count(0), 0);
        DUE.due("nothing recorded", x.count(12), 1);
        DUE.due("unknown unit", perform(x, "0>b1;1>a1;.;0>a1"), RiverCampaign.UNKNOWN);
        DUE.due("nothing moved", x.unit(0, 2), 0);
        DUE.due("attack of nobody", perform(x, "0!b1"), RiverCampaign.NOT_POSSIBLE);
        DUE.due("fault ahead of errors", perform(x, "1>a1;x"), -105);
        DUE.due("when its turn comes", perform(x, "0>b1;0>c1;0>d1;0>e1;0>f1"), RiverCampaign.NOT_POSSIBLE);
        DUE.due("each in its turn", perform(x, "0>b1;0>c1;0>d1;0>e1"), 4);
        DUE.due("moved", x.unit(0, 2), 4);
    }

    private static void performOfNothing() {
        RiverCampaign x = new RiverCampaign();
        x.place(0, 5, 0);
        DUE.due("an order that does nothing", perform(x, "0>a1"), 1);
        DUE.due("is recorded", x.count(12), 2);
        DUE.due("it goes on behind it", perform(x, "0>a1;0>b1"), 2);
        DUE.due("moved", x.unit(0, 2), 1);
    }

    private static void undo() {
        RiverCampaign x = new RiverCampaign();
        DUE.due("undo nothing", x.undo(), RiverCampaign.NONE);
        for (int i = 0; i < 6; i++) {
            x.ground(i, 1);
            DUE.due("states", x.count(12), Math.min(i + 1, 4));
        }
        for (int i = 5; i >= 2; i--) {
            DUE.due("undo", x.undo(), i - 2);
            DUE.due("undone", x.hex(i, 0), 0);
            DUE.due("not undone", x.hex(i - 1, 0), 1);
        }
        DUE.due("undo too often", x.undo(), RiverCampaign.NONE);
        DUE.due("the oldest are dropped", x.hex(1, 0), 1);
        x.ground(1, 2);
        DUE.due("undo again", x.undo(), 0);
        DUE.due("undone again", x.hex(1, 0), 1);
        x.place(0, 5, 30);
        x.fort(31, 1);
        x.move(0, 31);
        x.undo();
        DUE.due("unit back", x.hex(30, 3), 0);
        DUE.due("hex empty", x.hex(31, 3), RiverCampaign.NONE);
        DUE.due("fort back", x.hex(31, 2), 1);
        DUE.due("points back", x.unit(0, 3), 4);
        x.place(1, 5, 31);
        x.attack(0, 31);
        x.undo();
        DUE.due("attack back", x.unit(0, 4), 1);
        DUE.due("the enemy stays", x.unit(1, 1), 5);
        x.undo();
        x.place(0, 5, 0);
        x.keep();
        x.undo();
        x.place(1, 5, 0);
        DUE.due("a number for another side", x.unit(1, 0), 1);
        x.restore();
        DUE.due("the side that it had", x.unit(1, 0), 0);
    }

    private static void snapshot() {
        RiverCampaign x = new RiverCampaign();
        DUE.due("restore nothing", x.restore(), RiverCampaign.NONE);
        DUE.due("is not recorded", x.count(12), 0);
        x.endTurn();
        x.place(0, 5, 30);
        x.river(0, 0, true);
        DUE.due("keep", x.keep(), 1);
        DUE.due("keeping is no act", x.count(12), 3);
        x.endTurn();
        x.ground(5, 2);
        x.base(1, 5);
        DUE.due("restore", x.restore(), 1);
        DUE.due("history stays full", x.count(12), 4);
        DUE.due("ground", x.hex(5, 0), 0);
        DUE.due("base", x.count(15), 35);
        DUE.due("unit", x.unit(0, 2), 30);
        DUE.due("river", x.count(9), 1);
        DUE.due("restore is undone", x.undo(), 3);
        DUE.due("ground then", x.hex(5, 0), 2);
        DUE.due("turns then", x.count(0), 2);
        DUE.due("the snapshot stays", x.restore(), 1);
        DUE.due("again", x.restore(), 1);
        DUE.due("each one an act", x.count(12), 4);
        x.endTurn();
        x.endTurn();
        DUE.due("keep another", x.keep(), 3);
        x.undo();
        DUE.due("restore the other", x.restore(), 3);
    }

    private static void besieged() {
        RiverCampaign x = new RiverCampaign();
        DUE.due("hex 63", x.besieged(63), RiverCampaign.UNKNOWN);
        DUE.due("hex -1", x.besieged(-1), RiverCampaign.UNKNOWN);
        DUE.due("no fort", x.besieged(31), RiverCampaign.NONE);
        x.fort(31, 0);
        DUE.due("alone", x.besieged(31), 0);
        // Beside 31 lie 32, 23, 22, 30, 40, 41.
        x.place(1, 1, 24);
        DUE.due("two of six", x.besieged(31), 0);
        x.place(1, 1, 39);
        DUE.due("four of six", x.besieged(31), 0);
        x.place(1, 1, 22);
        DUE.due("41 is missing", x.besieged(31), 0);
        x.place(1, 1, 42);
        DUE.due("a unit or the zone at each", x.besieged(31), 1);
        x.place(0, 1, 32);
        DUE.due("own units do not help", x.besieged(31), 1);
        x.place(0, 1, 31);
        x.fort(0, 1);
        x.place(1, 1, 1);
        x.place(1, 1, 9);
        DUE.due("own units do not besiege", x.besieged(0), 0);
        x.fort(58, 0);
        x.place(1, 1, 48);
        DUE.due("59 is missing", x.besieged(58), 0);
        x.place(1, 1, 56);
        DUE.due("59 is still missing", x.besieged(58), 0);
        x.place(1, 1, 60);
        DUE.due("59 is in the zone", x.besieged(58), 1);
        x.fort(54, 0);
        x.place(1, 1, 45);
        DUE.due("corner", x.besieged(54), 1);
        x.undo();
        x.place(1, 1, 46);
        DUE.due("corner from two steps off", x.besieged(54), 1);
        RiverCampaign y = new RiverCampaign();
        y.fort(0, 0);
        y.place(1, 1, 1);
        DUE.due("a unit at 1 and its zone at 9", y.besieged(0), 1);
        y.undo();
        y.place(1, 1, 2);
        DUE.due("9 is missing", y.besieged(0), 0);
        y.fort(62, 0);
        DUE.due("the last hex", y.besieged(62), 0);
        y.place(1, 1, 52);
        DUE.due("53 and 61 in the zone", y.besieged(62), 1);
    }

    private static void count() {
        RiverCampaign x = new RiverCampaign();
        DUE.due("count 16", x.count(16), RiverCampaign.BAD_VALUE);
        DUE.due("count -1", x.count(-1), RiverCampaign.BAD_VALUE);
        x.place(0, 9, 28);
        x.place(1, 1, 29);
        x.place(1, 3, 62);
        x.place(1, 4, 61);
        x.fort(0, 0);
        x.fort(1, 1);
        x.fort(2, 1);
        x.river(0, 0, true);
        x.river(30, 0, true);
        x.river(31, 0, true);
        x.attack(0, 29);
        x.endTurn();
        x.type('x');
        x.base(0, 61);
        x.base(1, 60);
        // The unit 0 (at 29) sees 5, 4 (twice) and 3 (twice) hexes, its fort 0, 1 and 9.
        // The units 2 and 3 see 59 to 62, 50 to 53 and 42 to 44, the forts at 1 and 2 see 0 to 3 and 9 to 11.
        int[] due = {1, 1, 4, 1, 2, 9, 7, 1, 2, 3, 19 + 3, 11 + 7, 4, 1, 61, 60};
        for (int what = 0; what < 16; what++) {
            DUE.due("count(" + what + ")", x.count(what), due[what]);
        }
    }
}
