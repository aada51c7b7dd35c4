/** The boundaries of texts and of the orders in them: 60 characters, faults, errors of orders (promises 10 to 12). */
public final class TextEdgesTest {
    private static final Due DUE = new Due();
    private static final int UNKNOWN = RiverCampaign.UNKNOWN;
    private static final int FULL = RiverCampaign.FULL;
    private static final int NOT_POSSIBLE = RiverCampaign.NOT_POSSIBLE;
    private static final int NONE = RiverCampaign.NONE;

    /** So many texts are tried on one object that its calls stay under 512. */
    private static final int TEXTS_OF_AN_OBJECT = 45;

    public static void main(String[] args) {
        sixtyCharacters();
        anyCharacter();
        clearing();
        theEmptyText();
        textsThatEndTooEarly();
        charactersAtEachPlace();
        unitsInTexts();
        hexesInTexts();
        separators();
        faultsAtTheEnd();
        asManyOrdersAsThereIsRoomFor();
        howManyOrders();
        faultsAheadOfErrors();
        errorsOfOrders();
        allOrNone();
        ordersThatDoNothing();
        ordersOfUnitsThatAreGone();
        theTextStays();
        DUE.end();
    }

    private static void write(RiverCampaign x, String text) {
        x.clearText();
        for (int i = 0; i < text.length(); i++) {
            x.type(text.charAt(i));
        }
    }

    private static int perform(RiverCampaign x, String text) {
        write(x, text);
        return x.perform();
    }

    private static void fault(String text, int index) {
        RiverCampaign x = new RiverCampaign();
        DUE.due("fault of \"" + text + "\"", perform(x, text), -100 - index);
        DUE.due("acts by \"" + text + "\"", x.count(12), 0);
        DUE.due("turns by \"" + text + "\"", x.count(0), 0);
        DUE.due("length of \"" + text + "\"", x.count(13), text.length());
    }

    private static void sixtyCharacters() {
        DUE.sentence("There is a text of at most 60 characters, empty at first.");
        RiverCampaign x = new RiverCampaign();
        DUE.due("empty at first", x.count(13), 0);
        for (int length = 1; length <= 60; length++) {
            DUE.due("type " + length, x.type('.'), length);
            DUE.due("length", x.count(13), length);
        }
        DUE.sentence("Returns the length of the text then; FULL if it has 60 characters.");
        DUE.due("type 61", x.type('.'), FULL);
        DUE.due("type any other", x.type('\0'), FULL);
        DUE.due("length stays", x.count(13), 60);
        DUE.due("clear", x.clearText(), 60);
        DUE.due("type again", x.type('.'), 1);
    }

    private static void anyCharacter() {
        DUE.sentence("- `character`: any character");
        char[] characters = {0, 1, ' ', '\n', '.', '0', 'a', 127, 128, 255, 256, 0xd800, 0xdfff, 0xfffe, 0xffff};
        for (char character : characters) {
            RiverCampaign x = new RiverCampaign();
            DUE.due("type " + (int) character, x.type(character), 1);
            DUE.due("type it behind itself", x.type(character), 2);
        }
    }

    private static void clearing() {
        DUE.sentence("Returns the length that it had.");
        RiverCampaign x = new RiverCampaign();
        DUE.due("nothing", x.clearText(), 0);
        x.type('x');
        DUE.due("one", x.clearText(), 1);
        DUE.due("nothing again", x.clearText(), 0);
        DUE.due("length", x.count(13), 0);
        x.type('.');
        DUE.due("what was cleared is gone", x.perform(), 1);
    }

    private static void theEmptyText() {
        DUE.sentence("or the length of the text if it ends too early (the empty text does).");
        fault("", 0);
        RiverCampaign x = new RiverCampaign();
        x.type('.');
        x.clearText();
        DUE.due("empty again", x.perform(), -100);
    }

    private static void textsThatEndTooEarly() {
        String[] texts = {"0", "1", "7", "15", "0>", "0!", "15>", "15!", "0>a", "0!i", "15!i", ".;", "0>a1;", "0>a1;1",
            "0>a1;10", "0>a1;10>", "0>a1;10>a", ".;.;", "0>a1;15!i7;"};
        for (String text : texts) {
            fault(text, text.length());
        }
    }

    /** Every character there is, at every place of an order. */
    private static void charactersAtEachPlace() {
        DUE.sentence("the index, from 0, of the first character that is not allowed at its place");
        place("", "0123456789", ".");
        place(".;", "0123456789", ".");
        place("0", ">!", "");
        place("1", "012345>!", "");
        place("2", ">!", "");
        place("9", ">!", "");
        place("10", ">!", "");
        place("15", ">!", "");
        place("0>", "abcdefghi", "");
        place("0!", "abcdefghi", "");
        place("0>a", "", "1234567");
        place("0!i", "", "1234567");
        place("0>a1", ";", "");
        place(".", ";", "");
        place("0>a1;12", ">!", "");
    }

    /** Behind some characters an order still misses some, others end it. */
    private static void place(String before, String going, String ending) {
        RiverCampaign x = new RiverCampaign();
        for (int i = 0; i <= Character.MAX_VALUE; i++) {
            if (i % TEXTS_OF_AN_OBJECT == 0) {
                x = new RiverCampaign();
            }
            char character = (char) i;
            write(x, before);
            x.type(character);
            int answer = x.perform();
            if (ending.indexOf(character) >= 0) {
                DUE.is("\"" + before + character + "\" has no fault", answer > -100);
            } else {
                boolean goes = going.indexOf(character) >= 0;
                DUE.due("\"" + before + "\" and " + i, answer, -100 - before.length() - (goes ? 1 : 0));
            }
        }
    }

    private static void unitsInTexts() {
        DUE.sentence("a unit (0 to 15, without a zero in front)");
        RiverCampaign x = new RiverCampaign();
        for (int unit = 0; unit < 16; unit++) {
            x.place(0, 5, 4 * unit);
        }
        for (int unit = 0; unit < 16; unit++) {
            int to = 4 * unit % 9 == 8 ? 4 * unit - 1 : 4 * unit + 1;
            String hex = "" + (char) ('a' + to % 9) + (char) ('1' + to / 9);
            DUE.due("unit " + unit, perform(x, unit + ">" + hex), 1);
            DUE.due("it stands there", x.unit(unit, 2), to);
        }
        DUE.sentence("A digit by which a unit would be more than 15 is not allowed.");
        fault("16>a1", 1);
        fault("19>a1", 1);
        fault("20>a1", 1);
        fault("99>a1", 1);
        fault("150>a1", 2);
        fault("100>a1", 2);
        fault("00>a1", 1);
        fault("01>a1", 1);
        fault("015>a1", 1);
        fault("-1>a1", 0);
        fault("+1>a1", 0);
        fault(".;16>a1", 3);
    }

    private static void hexesInTexts() {
        DUE.sentence("a letter from a to i for the column, and a digit from 1 to 7 for the row (1 for 0)");
        for (int hex = 0; hex < 63; hex++) {
            RiverCampaign x = new RiverCampaign();
            int from = hex == 0 ? 1 : hex % 9 == 0 ? hex + 1 : hex - 1;
            x.place(0, 9, from);
            String name = "" + (char) ('a' + hex % 9) + (char) ('1' + hex / 9);
            DUE.due("move to " + name, perform(x, "0>" + name), 1);
            DUE.due("it stands there", x.unit(0, 2), hex);
            RiverCampaign y = new RiverCampaign();
            y.place(0, 9, from);
            y.place(1, 1, hex);
            DUE.due("attack " + name, perform(y, "0!" + name), 1);
            DUE.due("it goes there", y.unit(0, 2), hex);
        }
        fault("0>j1", 2);
        fault("0>`1", 2);
        fault("0>A1", 2);
        fault("0>11", 2);
        fault("0>a0", 3);
        fault("0>a8", 3);
        fault("0>i8", 3);
        fault("0>a10", 4);
    }

    private static void separators() {
        DUE.sentence("A text of orders is one or more orders with \";\" between two");
        fault(";", 0);
        fault(";.", 0);
        fault(".;;.", 2);
        fault("..", 1);
        fault(".,.", 1);
        fault(". ;.", 1);
        fault(" .", 0);
        fault(".;", 2);
        fault("0>a1 ", 4);
        fault("0>a1.", 4);
        fault("0>a1 ;.", 4);
        fault("0 >a1", 1);
        fault("0>>a1", 2);
        fault("0>.", 2);
        fault("0.", 1);
        fault("0;", 1);
    }

    private static void faultsAtTheEnd() {
        String full = ".;".repeat(30);
        fault(full, 60);
        fault(full.substring(0, 59) + ".", 59);
        fault(full.substring(0, 59) + "x", 59);
        fault(full.substring(0, 58) + "0>", 60);
        fault("x" + full.substring(1), 0);
        RiverCampaign x = new RiverCampaign();
        write(x, full);
        DUE.due("a character too many", x.type('.'), FULL);
        DUE.due("changes no fault", x.perform(), -160);
    }

    private static void asManyOrdersAsThereIsRoomFor() {
        DUE.sentence("or \".\" alone, which ends the turn.");
        String full = ".;".repeat(30);
        RiverCampaign x = new RiverCampaign();
        DUE.due("30 orders in 59 characters", perform(x, full.substring(0, 59)), 30);
        DUE.due("30 turns", x.count(0), 30);
        DUE.due("one act", x.count(12), 1);
        DUE.due("undo", x.undo(), 0);
        DUE.due("no turns", x.count(0), 0);
        x.place(0, 5, 1);
        DUE.due("29 orders in 60 characters", perform(x, full.substring(0, 56) + "0>a1"), 29);
        DUE.due("28 turns", x.count(0), 28);
        DUE.due("the last order is done", x.unit(0, 2), 0);
        RiverCampaign y = new RiverCampaign();
        y.place(0, 5, 1);
        DUE.due("12 orders of 4", perform(y, "0>a1;.;.;0>b1;.;.;0>a1;.;.;0>b1;.;.;0>a1;.;.;0>b1"), 16);
        DUE.due("all are done", y.unit(0, 2), 1);
    }

    private static void howManyOrders() {
        DUE.sentence("Returns how many there are; -100 minus the fault of the text if it has one (which is an error)");
        for (int many = 1; many <= 30; many++) {
            RiverCampaign x = new RiverCampaign();
            DUE.due(many + " orders", perform(x, ".;".repeat(many - 1) + "."), many);
            DUE.due("turns", x.count(0), many);
            DUE.due("one act", x.count(12), 1);
            DUE.due("the text stays", x.count(13), 2 * many - 1);
        }
    }

    private static void faultsAheadOfErrors() {
        RiverCampaign x = new RiverCampaign();
        DUE.due("an unknown unit alone", perform(x, "0>a1"), UNKNOWN);
        DUE.due("a fault behind it", perform(x, "0>a1;x"), -105);
        DUE.due("an end that is too early behind it", perform(x, "0>a1;"), -105);
        DUE.due("acts", x.count(12), 0);
    }

    private static void errorsOfOrders() {
        DUE.sentence("otherwise the error of the first one that has one when its turn comes.");
        RiverCampaign x = new RiverCampaign();
        x.place(0, 5, 0);
        x.place(1, 5, 2);
        DUE.due("unknown, not possible", perform(x, "2>a1;0>i7"), UNKNOWN);
        DUE.due("not possible, unknown", perform(x, "0>i7;2>a1"), NOT_POSSIBLE);
        DUE.due("possible, unknown", perform(x, "0>a2;2>a1"), UNKNOWN);
        DUE.due("not its turn", perform(x, "1>d1"), NOT_POSSIBLE);
        DUE.due("its turn comes", perform(x, ".;1>d1"), 2);
        x.undo();
        DUE.due("its turn is over", perform(x, ".;.;1>d1"), NOT_POSSIBLE);
        DUE.due("points are over", perform(x, "0>a2;0>a3;0>a4;0>a5;0>a6"), NOT_POSSIBLE);
        DUE.due("no enemy", perform(x, "0!b1"), NOT_POSSIBLE);
        DUE.due("an enemy that has come", perform(x, ".;1>b1;.;0!b1"), 4);
        DUE.due("a second attack", perform(x, "0!b1"), NOT_POSSIBLE);
    }

    private static void allOrNone() {
        DUE.sentence("one after the other; all of them, or none. This is one act.");
        RiverCampaign x = new RiverCampaign();
        x.place(0, 9, 0);
        x.place(1, 1, 2);
        x.fort(1, 1);
        x.base(1, 62);
        String orders = "0>b1;0!c1;.;.;0>d1;";
        DUE.due("the last one fails", perform(x, orders + "1>a1"), UNKNOWN);
        DUE.due("hex", x.unit(0, 2), 0);
        DUE.due("points", x.unit(0, 3), 4);
        DUE.due("attack", x.unit(0, 4), 1);
        DUE.due("the one that was gone", x.unit(1, 1), 1);
        DUE.due("its turns of starving", x.unit(1, 7), 0);
        DUE.due("fort", x.hex(1, 2), 1);
        DUE.due("turns", x.count(0), 0);
        DUE.due("states", x.count(12), 4);
        DUE.due("all are done", perform(x, orders + "."), 6);
        DUE.due("hex then", x.unit(0, 2), 3);
        DUE.due("fort then", x.hex(1, 2), 0);
        DUE.due("states then", x.count(12), 4);
        DUE.due("undo all", x.undo(), 3);
        DUE.due("hex again", x.unit(0, 2), 0);
        DUE.due("turns again", x.count(0), 0);
    }

    private static void ordersThatDoNothing() {
        DUE.sentence("(An order that would return NONE does nothing.)");
        RiverCampaign x = new RiverCampaign();
        x.place(0, 5, 0);
        DUE.due("alone", perform(x, "0>a1"), 1);
        DUE.due("is an act", x.count(12), 2);
        DUE.due("points", x.unit(0, 3), 4);
        DUE.due("ahead of others", perform(x, "0>a1;0>b1"), 2);
        DUE.due("behind others", perform(x, "0>a1;0>a1"), 2);
        DUE.due("hex", x.unit(0, 2), 0);
        DUE.due("points", x.unit(0, 3), 2);
        DUE.due("ahead of an error", perform(x, "0>a1;1>a1"), UNKNOWN);
        DUE.due("not its turn is no NONE", perform(x, ".;0>a1"), NOT_POSSIBLE);
    }

    private static void ordersOfUnitsThatAreGone() {
        RiverCampaign x = new RiverCampaign();
        x.place(0, 9, 0);
        x.place(1, 1, 1);
        DUE.due("it goes there itself", perform(x, "0!b1;0>b1"), 2);
        x.undo();
        DUE.due("the other one is gone", perform(x, "0!b1;.;1>c1"), UNKNOWN);
        DUE.due("an enemy that is gone", perform(x, "0!b1;.;.;0!b1"), NOT_POSSIBLE);
        DUE.due("nobody there still", x.hex(1, 3), 1);
        RiverCampaign y = new RiverCampaign();
        y.place(0, 1, 0);
        y.base(0, 62);
        DUE.due("starves", perform(y, ".;.;.;.;0>b1"), UNKNOWN);
        DUE.due("none is done", y.unit(0, 7), 0);
        DUE.due("until it is gone", perform(y, ".;.;0>b1;.;."), 5);
        DUE.due("units", y.count(3), 0);
    }

    private static void theTextStays() {
        DUE.sentence("Does the orders of the text, which stays");
        RiverCampaign x = new RiverCampaign();
        write(x, ".");
        DUE.due("once", x.perform(), 1);
        DUE.due("length", x.count(13), 1);
        DUE.due("twice", x.perform(), 1);
        DUE.due("turns", x.count(0), 2);
        DUE.due("go on typing", x.type(';'), 2);
        DUE.due("a fault", x.perform(), -102);
        DUE.due("stays with a fault, too", x.count(13), 2);
        DUE.due("go on again", x.type('.'), 3);
        DUE.due("two orders", x.perform(), 2);
        DUE.due("turns then", x.count(0), 4);
        write(x, "0>a1");
        DUE.due("an error", x.perform(), UNKNOWN);
        DUE.due("stays with an error, too", x.count(13), 4);
        DUE.due("undo", x.undo(), 2);
        DUE.due("stays at an undo, too", x.count(13), 4);
        DUE.due("nobody", x.hex(0, 3), NONE);
    }
}
