import java.io.IOException;
import java.nio.file.Files;
import java.nio.file.Path;

/** Terms: texts, history, and errors; the constants, and the order of the calls. */
final class RecordSentences {
    private static final int UNKNOWN = Play.UNKNOWN;
    private static final int BAD_VALUE = Play.BAD_VALUE;
    private static final int FULL = Play.FULL;
    private static final int NOT_POSSIBLE = Play.NOT_POSSIBLE;
    private static final int NONE = Play.NONE;

    private RecordSentences() {
    }

    static void all(Walk w) {
        w.over("TEXTS");
        sixtyCharacters(w);
        orders(w);
        unitsOfOrders(w);
        hexesOfOrders(w);
        fifteen(w);
        faults(w);
        w.over("HISTORY");
        fourStates(w);
        acts(w);
        states(w);
        w.over("ERRORS");
        errors(w);
        constants(w);
        groups(w);
    }

    private static void sixtyCharacters(Walk w) {
        w.at("There is a text of at most 60 characters, empty at first.");
        RiverCampaign x = new RiverCampaign();
        w.due("length at first", x.count(13), 0);
        w.due("nothing to be emptied", x.clearText(), 0);
        for (int length = 1; length <= 60; length++) {
            w.due("type", x.type(length % 2 == 1 ? '.' : ';'), length);
        }
        w.due("one more", x.type('.'), FULL);
        w.due("length", x.count(13), 60);
        w.due("the last one counts", x.perform(), -160);
        Play.write(x, ".;".repeat(28) + "0>a");
        x.type('1');
        w.due("an order that ends with the last character", x.perform(), UNKNOWN);
    }

    /** The fault of a text, on an object with units that may do what the texts want; -1 without one. */
    private static int fault(String text) {
        RiverCampaign x = new RiverCampaign();
        int answer = Play.perform(x, text);
        return answer <= -100 ? -100 - answer : -1;
    }

    private static void read(Walk w, String... texts) {
        for (String text : texts) {
            w.due("fault of \"" + text + "\"", fault(text), -1);
        }
    }

    private static void orders(Walk w) {
        w.at("A text of orders is one or more orders with \";\" between two:");
        read(w, ".", ".;.", ".;.;.", "0>a1;.", ".;0!a1;0>a1");
        w.due("none", fault(""), 0);
        w.due("no order ahead of ;", fault(";."), 0);
        w.due("no order behind ;", fault(".;"), 2);
        w.due("no order between two ;", fault(".;;."), 2);
        w.due("nothing between two orders", fault("0>a1.;."), 4);
        w.due("another sign between two orders", fault(".,."), 1);
        w.due("a blank between two orders", fault(".; ."), 2);
        w.due("a blank behind them", fault(". "), 1);
    }

    private static void unitsOfOrders(Walk w) {
        w.at("a unit (0 to 15, without a zero in front),");
        RiverCampaign x = new RiverCampaign();
        for (int unit = 0; unit < 16; unit++) {
            x.place(0, 5, 3 * unit);
        }
        for (int unit = 0; unit < 16; unit++) {
            int hex = 3 * unit + 1;
            w.due("move " + unit, Play.perform(x, unit + ">" + (char) ('a' + hex % 9) + (1 + hex / 9)), 1);
            w.due("its hex", x.unit(unit, 2), hex);
        }
        for (int digit = 0; digit <= 9; digit++) {
            w.due("a zero in front of " + digit, fault("0" + digit + ">a1"), 1);
        }
        w.due("no unit", fault(">a1"), 0);
        w.due("three digits", fault("150>a1"), 2);
        w.due("less than 0", fault("-1>a1"), 0);
        w.at("\">\" (it moves) or \"!\" (it attacks), and a hex:");
        RiverCampaign y = Play.units(0, 9, 31, 1, 9, 32);
        w.due("it attacks", Play.perform(y, "0!f4"), 1);
        w.due("it has attacked", y.unit(0, 4), 0);
        w.due("it stays", y.unit(0, 2), 31);
        w.due("it moves", Play.perform(y, "0>e3"), 1);
        w.due("its hex", y.unit(0, 2), 22);
        w.due("another sign", fault("0=a1"), 1);
        w.due("both signs", fault("0>!a1"), 2);
        w.due("no sign", fault("0a1"), 1);
    }

    private static void hexesOfOrders(Walk w) {
        w.at("a letter from a to i for the column, and a digit from 1 to 7 for the row (1 for 0);");
        for (int hex = 0; hex < 63; hex++) {
            int from = hex % 9 == 0 ? hex + 1 : hex - 1;
            RiverCampaign x = Play.units(0, 5, from);
            w.due("move", Play.perform(x, "0>" + "abcdefghi".charAt(hex % 9) + "1234567".charAt(hex / 9)), 1);
            w.due("its hex", x.unit(0, 2), hex);
        }
        String noLetters = "`jAI1 z>";
        for (int i = 0; i < noLetters.length(); i++) {
            w.due("column " + noLetters.charAt(i), fault("0>" + noLetters.charAt(i) + "1"), 2);
        }
        String noDigits = "089a/:.;";
        for (int i = 0; i < noDigits.length(); i++) {
            w.due("row " + noDigits.charAt(i), fault("0>a" + noDigits.charAt(i)), 3);
        }
        w.due("two digits for the row", fault("0>a11"), 4);
        w.at("or \".\" alone, which ends the turn.");
        RiverCampaign x = new RiverCampaign();
        w.due("once", Play.perform(x, "."), 1);
        w.due("turns", x.count(0), 1);
        w.due("side", x.count(1), 1);
        w.due("three times", Play.perform(x, ".;.;."), 3);
        w.due("turns then", x.count(0), 4);
        w.due("not alone", fault(".."), 1);
        w.due("not behind a unit", fault("0."), 1);
        w.due("not with a unit behind it", fault(".0>a1"), 1);
    }

    private static void fifteen(Walk w) {
        w.at("A digit by which a unit would be more than 15 is not allowed.");
        for (int unit = 10; unit <= 99; unit++) {
            w.due("fault of the unit " + unit, fault(unit + ">a1"), unit <= 15 ? -1 : 1);
        }
        w.due("the third digit", fault("100>a1"), 2);
        w.due("behind an order", fault(".;16>a1"), 3);
    }

    private static void faults(Walk w) {
        w.at("The fault of the text is the index, from 0, of the first character that is not allowed at its place,");
        String text = "15>a1;.;0!i7";
        for (int i = 0; i < text.length(); i++) {
            w.due("? at " + i, fault(text.substring(0, i) + "?" + text.substring(i + 1)), i);
            w.due("? at " + i + " and behind it", fault(text.substring(0, i) + "??" + text.substring(i)), i);
            w.due("a great sign at " + i, fault(text.substring(0, i) + "\uffff"), i);
            w.due("a sign 256 above at " + i, fault(text.substring(0, i) + (char) (text.charAt(i) + 256)), i);
        }
        everySign(w, text);
        w.at("or the length of the text if it ends too early (the empty text does).");
        String ends = "";
        for (int length = 0; length < text.length(); length++) {
            ends = text.substring(0, length);
            boolean complete = ends.endsWith("a1") || ends.endsWith(".");
            w.due("fault of \"" + ends + "\"", fault(ends), complete ? -1 : length);
        }
        w.due("all of it", fault(text), -1);
    }

    /** Every sign below 256 behind each beginning of the text, which is 15>a1;.;0!i7. */
    private static void everySign(Walk w, String text) {
        String first = "0123456789.";
        String column = "abcdefghi";
        String row = "1234567";
        String[] allowed = {first, "012345>!", ">!", column, row, ";", first, ";", first, ">!", column, row};
        for (int i = 0; i < text.length(); i++) {
            for (char sign = 0; sign < 256; sign++) {
                boolean ends = sign == '.' || allowed[i].equals(row);
                int due = allowed[i].indexOf(sign) < 0 ? i : ends ? -1 : i + 1;
                w.due("the sign " + (int) sign + " at " + i, fault(text.substring(0, i) + sign), due);
            }
        }
    }

    private static void fourStates(Walk w) {
        w.at("A history of at most 4 states is kept; when one more is recorded, the oldest one is dropped;");
        for (int acts = 0; acts <= 9; acts++) {
            RiverCampaign x = new RiverCampaign();
            for (int act = 1; act <= acts; act++) {
                x.base(0, act);
                w.due("states", x.count(12), Math.min(act, 4));
            }
            for (int left = Math.min(acts, 4); left > 0; left--) {
                w.due("undo", x.undo(), left - 1);
            }
            w.due("no more", x.undo(), NONE);
            w.due("the oldest that is left", x.count(14), acts <= 4 ? 27 : acts - 4);
        }
        w.at("undo() removes and restores the latest one.");
        RiverCampaign x = new RiverCampaign();
        x.base(0, 1);
        x.base(0, 2);
        w.due("removes one", x.undo(), 1);
        w.due("restores the latest", x.count(14), 1);
        x.base(0, 3);
        w.due("removes another", x.undo(), 1);
        w.due("restores it", x.count(14), 1);
        w.due("the first one", x.undo(), 0);
        w.due("restores the first", x.count(14), 27);
    }

    private static void acts(Walk w) {
        w.at("Each call of a method that is described as an act, and returns no error and not NONE, "
            + "records the state that was before it.");
        RiverCampaign x = Play.units(0, 9, 30, 1, 5, 32);
        w.due("place", x.count(12), 2);
        x.place(0, 10, 0);
        x.place(0, 5, 30);
        x.ground(0, 0);
        x.ground(63, 0);
        x.move(0, 30);
        x.move(0, 0);
        x.move(2, 31);
        x.move(0, 63);
        x.attack(0, 32);
        x.attack(2, 32);
        x.base(2, 0);
        x.base(0, 27);
        x.river(0, 3, true);
        x.river(0, 0, false);
        x.fort(0, 2);
        x.restore();
        x.perform();
        Play.perform(x, "0>e4;2>a1");
        Play.perform(x, "0>e4;0>i1");
        w.due("errors and NONE", x.count(12), 2);
        Play.write(x, ".");
        x.keep();
        x.hex(0, 0);
        x.would(0, 31, 0);
        w.due("no acts", x.count(12), 2);
        w.due("move", x.move(0, 31), 3);
        w.due("states", x.count(12), 3);
        w.due("attack", x.attack(0, 32), 2);
        w.due("states", x.count(12), 4);
        w.due("the state before the attack", x.undo(), 3);
        w.due("strength", x.unit(1, 1), 5);
        w.due("attack is there again", x.unit(0, 4), 1);
        w.due("the state before the move", x.undo(), 2);
        w.due("hex", x.unit(0, 2), 30);
        w.due("points", x.unit(0, 3), 4);
        w.due("undo is no act", x.count(12), 2);
        w.due("fort that is pulled down, 0 being no error", fortDown().count(12), 2);
    }

    private static RiverCampaign fortDown() {
        RiverCampaign x = new RiverCampaign();
        x.fort(0, 0);
        x.fort(0, 2);
        return x;
    }

    private static void states(Walk w) {
        w.at("There is one snapshot, empty at first.");
        RiverCampaign x = new RiverCampaign();
        w.due("at first", x.restore(), NONE);
        x.keep();
        x.endTurn();
        x.keep();
        x.endTurn();
        w.due("the second one alone", x.restore(), 1);
        w.due("the second one again", x.restore(), 1);
        w.at("A state is everything but the text, the history and the snapshot.");
        RiverCampaign y = everything();
        long all = told(y);
        y.keep();
        y.undo();
        w.is("differs", told(y) != all);
        w.due("restore", y.restore(), 3);
        w.is("everything is restored", told(y) == all);
        y.clearText();
        y.type('x');
        y.place(0, 5, 1);
        w.due("undo", y.undo(), 3);
        w.is("everything is undone", told(y) == all);
        w.due("but the text", y.count(13), 1);
        y.restore();
        w.due("nor is it restored", y.count(13), 1);
        w.due("nor the history", y.count(12), 4);
        Play.endTurns(y, 1);
        y.keep();
        y.undo();
        w.due("nor is the snapshot undone", y.restore(), 4);
        RiverCampaign z = Play.units(0, 5, 31);
        z.keep();
        z.undo();
        z.place(1, 7, 5);
        int[] due = {0, 5, 31};
        z.restore();
        for (int what = 0; what < due.length; what++) {
            w.due("what " + what + " of the unit that was", z.unit(0, what), due[what]);
        }
    }

    /** All that a state may hold. */
    private static RiverCampaign everything() {
        RiverCampaign x = Play.units(0, 9, 31, 1, 1, 32, 0, 5, 8, 1, 5, 33);
        x.fort(32, 1);
        x.fort(30, 1);
        x.ground(33, 1);
        x.ground(23, 2);
        x.river(31, 1, true);
        x.base(0, 0);
        x.base(1, 62);
        x.attack(0, 32);
        x.move(0, 41);
        Play.endTurns(x, 3);
        x.move(3, 34);
        return x;
    }

    /** A number of what is told of a state; of some hexes alone, as an object is used for 512 calls. */
    private static long told(RiverCampaign x) {
        long sum = 0;
        for (int hex = 23; hex < 35; hex++) {
            sum = sum * 31 + x.hex(hex, 0);
            sum = sum * 31 + x.hex(hex, 1);
            sum = sum * 31 + x.hex(hex, 2);
            sum = sum * 31 + x.hex(hex, 3);
        }
        for (int unit = 0; unit < 4; unit++) {
            for (int what = 0; what <= 9; what++) {
                sum = sum * 31 + x.unit(unit, what);
            }
        }
        for (int what = 0; what <= 11; what++) {
            sum = sum * 31 + x.count(what);
        }
        return sum * 31 * 31 + 31 * x.count(14) + x.count(15);
    }

    private static void errors(Walk w) {
        w.at("Errors are reported by the constants below.");
        RiverCampaign x = Play.oneIsGone();
        w.due("no such hex", x.ground(63, 0), RiverCampaign.UNKNOWN);
        w.due("out of range", x.ground(0, 3), RiverCampaign.BAD_VALUE);
        w.due("not possible", x.place(0, 1, 31), RiverCampaign.NOT_POSSIBLE);
        w.due("nothing", x.restore(), RiverCampaign.NONE);
        Play.write(x, ".".repeat(60));
        w.due("no room", x.type('.'), RiverCampaign.FULL);
        w.at("Where several errors can apply, the order of the @return line is the order of the checks.");
        w.due("ground: UNKNOWN, BAD_VALUE", x.ground(-1, 3), UNKNOWN);
        w.due("river: UNKNOWN, BAD_VALUE", x.river(63, 6, true), UNKNOWN);
        w.due("fort: UNKNOWN, BAD_VALUE", x.fort(-1, -1), UNKNOWN);
        w.due("place: UNKNOWN, BAD_VALUE", x.place(2, 0, 31), UNKNOWN);
        w.due("place: BAD_VALUE, NOT_POSSIBLE", x.place(0, 0, 31), BAD_VALUE);
        w.due("move: UNKNOWN, NOT_POSSIBLE", x.move(1, 63), UNKNOWN);
        w.due("attack: UNKNOWN, NOT_POSSIBLE", x.attack(1, -1), UNKNOWN);
        w.due("perform: the fault of the text, errors of orders", Play.perform(x, "9>a1;?"), -105);
        w.due("hex: UNKNOWN, BAD_VALUE", x.hex(63, 9), UNKNOWN);
        w.due("beside: UNKNOWN, BAD_VALUE", x.beside(63, 6), UNKNOWN);
        w.due("unit: UNKNOWN, BAD_VALUE", x.unit(2, 10), UNKNOWN);
        w.due("would: UNKNOWN, BAD_VALUE", x.would(2, 32, 4), UNKNOWN);
        w.due("would: BAD_VALUE, NOT_POSSIBLE", x.would(0, 0, 4), BAD_VALUE);
        RiverCampaign full = new RiverCampaign();
        for (int unit = 0; unit < 16; unit++) {
            full.place(0, 1, unit);
        }
        w.due("place: UNKNOWN, FULL", full.place(0, 1, 63), UNKNOWN);
        w.due("place: BAD_VALUE, FULL", full.place(0, 10, 0), BAD_VALUE);
        w.due("place: FULL, NOT_POSSIBLE", full.place(0, 1, 0), FULL);
        w.at("NONE is no error; it is returned only if no error applies.");
        w.due("an order that returns NONE does not stop the others", Play.perform(x, "0>e4;0>e5"), 2);
        w.due("move to its own hex, not in its turn", x.move(1, 32), NOT_POSSIBLE);
        w.due("no river, where no hex lies", x.river(0, 3, false), NOT_POSSIBLE);
        w.due("no fort, on no hex", x.fort(63, 2), UNKNOWN);
        w.due("no siege, on no hex", x.besieged(63), UNKNOWN);
        nothingChanges(w);
    }

    private static void nothingChanges(Walk w) {
        w.at("A call that returns an error or NONE changes nothing.");
        RiverCampaign x = everything();
        Play.write(x, "3>i4;9>a1");
        long all = told(x);
        int states = x.count(12);
        int[] answers = {x.ground(33, 1), x.ground(5, 3), x.ground(63, 1), x.river(31, 1, true), x.river(0, 3, true),
            x.river(31, 7, false), x.fort(30, 0), x.fort(31, 2), x.fort(30, 3), x.base(0, 0), x.base(2, 5),
            x.place(0, 0, 5), x.place(0, 5, 41), x.place(2, 5, 5), x.move(3, 34), x.move(3, 0), x.move(0, 40),
            x.move(1, 30), x.attack(3, 33), x.attack(0, 34), x.attack(1, 41), x.perform(), x.restore(), x.hex(0, 9),
            x.beside(0, 3), x.distance(0, 63), x.unit(1, 0), x.cost(0, 0), x.would(0, 33, 0), x.besieged(5),
            x.count(16)};
        for (int i = 0; i < answers.length; i++) {
            w.is("call " + i + " returns an error or NONE", answers[i] < 0);
        }
        w.is("all is told as before", told(x) == all);
        w.due("states", x.count(12), states);
        w.due("text", x.count(13), 9);
        w.due("the latest state is removed", x.undo(), states - 1);
        w.due("it is the one before the latest act", x.unit(3, 2), 33);
    }

    private static void constants(Walk w) {
        w.over("The constants:");
        w.at("`UNKNOWN = -1`: There is no such hex, side or unit (or it is gone).");
        RiverCampaign x = Play.oneIsGone();
        w.due("hex", x.hex(63, 0), -1);
        w.due("side", x.base(2, 0), -1);
        w.due("unit", x.unit(3, 0), -1);
        w.due("gone", x.unit(2, 0), -1);
        w.at("`BAD_VALUE = -2`: Another argument is out of range.");
        w.due("kind", x.ground(0, 3), -2);
        w.due("direction", x.beside(0, 6), -2);
        w.due("what", x.count(16), -2);
        w.at("`FULL = -3`: There is no more room.");
        Play.write(x, ".".repeat(60));
        w.due("text", x.type('.'), -3);
        w.at("`NOT_POSSIBLE = -4`: This is not possible.");
        w.due("move", x.move(0, 0), -4);
        w.at("`NONE = -5`: There is no such thing; not an error.");
        w.due("fort", x.hex(0, 2), -5);
        w.due("beside", x.beside(0, 3), -5);
    }

    /** The lines that the interface says stand in the source ahead of the calls. */
    private static void groups(Walk w) {
        String source = source();
        group(w, source, "the board", "ground", "river", "fort", "base");
        group(w, source, "units", "place", "move", "attack", "endTurn", "perform");
        group(w, source, "texts", "type", "clearText");
        group(w, source, "history", "undo", "keep", "restore");
        group(w, source, "what is told", "hex", "beside", "distance", "unit", "cost", "would", "besieged", "count");
    }

    private static String source() {
        try {
            return Files.readString(Path.of("src/main/java/RiverCampaign.java"));
        } catch (IOException e) {
            throw new IllegalStateException("no source", e);
        }
    }

    private static void group(Walk w, String source, String name, String... calls) {
        w.at("Ahead of the calls `" + String.join("`, `", calls) + "` the interface says: ---- " + name + ".");
        int line = source.indexOf("// ---- " + name + "\n");
        w.is("the line stands there", line >= 0);
        int end = source.indexOf("// ----", line + 1);
        int place = line;
        for (String call : calls) {
            int next = source.indexOf("public int " + call + "(");
            w.is(call + " stands behind it", next > place && (end < 0 || next < end));
            place = next;
        }
    }
}
