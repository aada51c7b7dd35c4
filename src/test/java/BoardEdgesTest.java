import java.util.function.IntUnaryOperator;

/** The boundaries of the board: its hexes, directions, grounds, rivers, forts and bases (promises 1 to 5, 16 to 18). */
public final class BoardEdgesTest {
    private static final Due DUE = new Due();
    private static final int UNKNOWN = RiverCampaign.UNKNOWN;
    private static final int BAD_VALUE = RiverCampaign.BAD_VALUE;
    private static final int NOT_POSSIBLE = RiverCampaign.NOT_POSSIBLE;
    private static final int NONE = RiverCampaign.NONE;

    /** One more and one less than what is allowed is tested where it is; these are far out. */
    private static final int[] FAR_OUT = {Integer.MIN_VALUE, -1000, 1000, Integer.MAX_VALUE};
    private static final int RIVERS_THERE_MAY_BE = 7 * 8 + 6 * 17;

    public static void main(String[] args) {
        constants();
        aNewObject();
        theLastCall();
        hexesOfEachCall();
        rowsDoNotGoOnInTheNext();
        fightsDoNotGoOnInTheNextRow();
        zonesDoNotGoOnInTheNextRow();
        distancesOfAll();
        groundKinds();
        groundThatIsSoAlready();
        riverDirections();
        riversOffTheBoard();
        riversThatAreSoAlready();
        allRivers();
        fortSides();
        fortsThatAreSoAlready();
        allForts();
        baseSides();
        basesThatAreThereAlready();
        whatOfHexes();
        besideDirections();
        besidesOfAllHexes();
        DUE.end();
    }

    private static void constants() {
        DUE.sentence("`UNKNOWN = -1`: There is no such hex, side or unit (or it is gone).");
        DUE.due("UNKNOWN", RiverCampaign.UNKNOWN, -1);
        DUE.sentence("`BAD_VALUE = -2`: Another argument is out of range.");
        DUE.due("BAD_VALUE", RiverCampaign.BAD_VALUE, -2);
        DUE.sentence("`FULL = -3`: There is no more room.");
        DUE.due("FULL", RiverCampaign.FULL, -3);
        DUE.sentence("`NOT_POSSIBLE = -4`: This is not possible.");
        DUE.due("NOT_POSSIBLE", RiverCampaign.NOT_POSSIBLE, -4);
        DUE.sentence("`NONE = -5`: There is no such thing; not an error.");
        DUE.due("NONE", RiverCampaign.NONE, -5);
    }

    private static void aNewObject() {
        DUE.sentence("Creates a plain board without units.");
        RiverCampaign x = new RiverCampaign();
        for (int hex = 0; hex < 63; hex++) {
            DUE.due("ground of " + hex, x.hex(hex, 0), 0);
            DUE.due("rivers of " + hex, x.hex(hex, 1), 0);
            DUE.due("fort of " + hex, x.hex(hex, 2), NONE);
            DUE.due("unit of " + hex, x.hex(hex, 3), NONE);
            DUE.due("siege of " + hex, x.besieged(hex), NONE);
        }
        DUE.sentence("(the hex 27 for the side 0, 35 for the side 1, at first)");
        DUE.due("base of 0", x.count(14), 27);
        DUE.due("base of 1", x.count(15), 35);
        DUE.sentence("It is the turn of a side, of 0 at first.");
        for (int what = 0; what <= 13; what++) {
            DUE.due("count(" + what + ")", x.count(what), 0);
        }
        RiverCampaign y = new RiverCampaign();
        for (int unit = 0; unit <= 16; unit++) {
            DUE.due("unit " + unit, y.unit(unit, 0), UNKNOWN);
        }
        for (int what = 4; what <= 7; what++) {
            for (int hex = 0; hex < 63; hex++) {
                DUE.due("hex(" + hex + ", " + what + ")", y.hex(hex, what), 0);
            }
        }
    }

    private static void theLastCall() {
        DUE.sentence("An object is used for at most 512 calls after it has been made");
        RiverCampaign x = new RiverCampaign();
        for (int call = 1; call <= 510; call++) {
            x.ground(call % 63, 1 + call / 63 % 2);
        }
        DUE.due("call 511", x.place(1, 9, 62), 0);
        DUE.due("call 512", x.undo(), 3);
    }

    private static void hexesOfEachCall() {
        DUE.sentence("The board has 9 columns (0 to 8) and 7 rows (0 to 6)");
        hexes("ground", h -> new RiverCampaign().ground(h, 1));
        hexes("river", h -> new RiverCampaign().river(h, 0, true));
        hexes("fort", h -> new RiverCampaign().fort(h, 0));
        hexes("base 0", h -> new RiverCampaign().base(0, h));
        hexes("base 1", h -> new RiverCampaign().base(1, h));
        hexes("place", h -> new RiverCampaign().place(0, 1, h));
        hexes("move", h -> withUnits().move(0, h));
        hexes("attack", h -> withUnits().attack(0, h));
        hexes("hex", h -> new RiverCampaign().hex(h, 0));
        hexes("beside", h -> new RiverCampaign().beside(h, 0));
        hexes("distance from", h -> new RiverCampaign().distance(h, 31));
        hexes("distance to", h -> new RiverCampaign().distance(31, h));
        hexes("cost", h -> withUnits().cost(0, h));
        hexes("would", h -> withUnits().would(0, h, 0));
        hexes("besieged", h -> new RiverCampaign().besieged(h));
    }

    private static RiverCampaign withUnits() {
        RiverCampaign x = new RiverCampaign();
        x.place(0, 5, 31);
        x.place(1, 5, 32);
        return x;
    }

    private static void hexes(String call, IntUnaryOperator answer) {
        for (int hex = 0; hex < 63; hex++) {
            DUE.is(call + " knows the hex " + hex, answer.applyAsInt(hex) != UNKNOWN);
        }
        DUE.due(call + " -1", answer.applyAsInt(-1), UNKNOWN);
        DUE.due(call + " 63", answer.applyAsInt(63), UNKNOWN);
        for (int hex : FAR_OUT) {
            DUE.due(call + " " + hex, answer.applyAsInt(hex), UNKNOWN);
        }
    }

    private static void rowsDoNotGoOnInTheNext() {
        DUE.sentence("The hexes of an odd row lie half a hex to the right.");
        RiverCampaign x = new RiverCampaign();
        for (int row = 0; row < 7; row++) {
            boolean odd = row % 2 == 1;
            int first = 9 * row;
            int last = first + 8;
            DUE.due("right of the last", x.beside(last, 0), NONE);
            DUE.due("left of the first", x.beside(first, 3), NONE);
            DUE.due("up left of the first", x.beside(first, 2), odd ? first - 9 : NONE);
            DUE.due("down left of the first", x.beside(first, 4), odd ? first + 9 : NONE);
            DUE.due("up right of the last", x.beside(last, 1), odd || row == 0 ? NONE : last - 9);
            DUE.due("down right of the last", x.beside(last, 5), odd || row == 6 ? NONE : last + 9);
        }
        for (int column = 0; column < 9; column++) {
            DUE.due("up right of the first row", x.beside(column, 1), NONE);
            DUE.due("up left of the first row", x.beside(column, 2), NONE);
            DUE.due("down left of the last row", x.beside(54 + column, 4), NONE);
            DUE.due("down right of the last row", x.beside(54 + column, 5), NONE);
        }
    }

    private static void fightsDoNotGoOnInTheNextRow() {
        DUE.sentence("Two hexes are beside one another if one lies in a direction from the other.");
        int[][] apart = {{8, 9}, {17, 18}, {26, 27}, {35, 36}, {44, 45}, {53, 54}, {0, 62}, {8, 54}, {0, 8}, {0, 54},
            {31, 33}, {31, 21}, {31, 39}, {22, 14}, {22, 32}, {0, 10}};
        for (int[] pair : apart) {
            RiverCampaign x = new RiverCampaign();
            x.place(0, 5, pair[0]);
            x.place(1, 5, pair[1]);
            DUE.due("attack", x.attack(0, pair[1]), NOT_POSSIBLE);
            DUE.due("would", x.would(0, pair[1], 0), NOT_POSSIBLE);
            DUE.due("would back", x.would(1, pair[0], 0), NOT_POSSIBLE);
        }
    }

    private static void zonesDoNotGoOnInTheNextRow() {
        DUE.sentence("The zone of a side is all hexes that are beside a unit of it.");
        for (int at = 0; at < 63; at++) {
            RiverCampaign x = new RiverCampaign();
            x.place(at % 2, 1, at);
            for (int hex = 0; hex < 63; hex++) {
                int in = areBeside(at, hex) ? 1 : 0;
                DUE.due("zone of the unit at " + at + " on " + hex, x.hex(hex, 4 + at % 2), in);
                DUE.due("zone of the other", x.hex(hex, 5 - at % 2), 0);
            }
        }
    }

    private static void distancesOfAll() {
        DUE.sentence("The distance of two hexes is the least number of steps from one to another that is beside it");
        for (int one = 0; one < 63; one++) {
            RiverCampaign x = new RiverCampaign();
            int[] steps = stepsFrom(one);
            for (int other = 0; other < 63; other++) {
                DUE.due("distance(" + one + ", " + other + ")", x.distance(one, other), steps[other]);
            }
        }
    }

    private static int[] stepsFrom(int start) {
        int[] steps = new int[63];
        java.util.Arrays.fill(steps, 99);
        steps[start] = 0;
        for (int done = 0; done < 62; done++) {
            for (int hex = 0; hex < 63; hex++) {
                for (int next = 0; next < 63 && steps[hex] == done; next++) {
                    if (areBeside(hex, next)) {
                        steps[next] = Math.min(steps[next], done + 1);
                    }
                }
            }
        }
        return steps;
    }

    /** By the places of the middles of the hexes: half a column to the right in odd rows. */
    private static boolean areBeside(int one, int other) {
        int down = Math.abs(one / 9 - other / 9);
        int halves = Math.abs(halvesToTheRight(one) - halvesToTheRight(other));
        return down == 0 && halves == 2 || down == 1 && halves == 1;
    }

    private static int halvesToTheRight(int hex) {
        return 2 * (hex % 9) + hex / 9 % 2;
    }

    private static void groundKinds() {
        DUE.sentence("- `kind`: 0 to 2");
        RiverCampaign x = new RiverCampaign();
        DUE.due("kind -1", x.ground(31, -1), BAD_VALUE);
        DUE.due("kind 3", x.ground(31, 3), BAD_VALUE);
        for (int kind : FAR_OUT) {
            DUE.due("kind " + kind, x.ground(31, kind), BAD_VALUE);
        }
        DUE.due("kind 2", x.ground(31, 2), 0);
        DUE.due("kind 1", x.ground(31, 1), 2);
        DUE.due("kind 0", x.ground(31, 0), 1);
        DUE.due("kind 1 again", x.ground(31, 1), 0);
        DUE.due("kind 2 again", x.ground(31, 2), 1);
        DUE.due("kind 0 again", x.ground(31, 0), 2);
    }

    private static void groundThatIsSoAlready() {
        DUE.sentence("Returns the previous one; UNKNOWN; BAD_VALUE; NONE if it is so already.");
        RiverCampaign x = new RiverCampaign();
        for (int kind = 0; kind <= 2; kind++) {
            x.ground(31, kind);
            DUE.due("kind " + kind + " again", x.ground(31, kind), NONE);
            DUE.due("kind " + kind, x.hex(31, 0), kind);
        }
        DUE.due("acts", x.count(12), 2);
    }

    private static void riverDirections() {
        DUE.sentence("Returns how many rivers there are then; UNKNOWN (hex); BAD_VALUE (direction)");
        for (boolean is : new boolean[] {true, false}) {
            RiverCampaign x = new RiverCampaign();
            DUE.due("direction -1", x.river(31, -1, is), BAD_VALUE);
            DUE.due("direction 6", x.river(31, 6, is), BAD_VALUE);
            for (int direction : FAR_OUT) {
                DUE.due("direction " + direction, x.river(31, direction, is), BAD_VALUE);
            }
        }
        RiverCampaign x = new RiverCampaign();
        for (int direction = 0; direction <= 5; direction++) {
            DUE.due("direction " + direction, x.river(31, direction, true), direction + 1);
            DUE.due("bits", x.hex(31, 1), (2 << direction) - 1);
        }
    }

    private static void riversOffTheBoard() {
        DUE.sentence("NOT_POSSIBLE if no hex lies in the direction; NONE if it is so already.");
        RiverCampaign x = new RiverCampaign();
        int off = 0;
        for (int hex = 0; hex < 63; hex++) {
            for (int direction = 0; direction <= 5; direction++) {
                if (besideByHand(hex, direction) == NONE) {
                    off++;
                    DUE.due("lay " + hex + ", " + direction, x.river(hex, direction, true), NOT_POSSIBLE);
                    DUE.due("take " + hex + ", " + direction, x.river(hex, direction, false), NOT_POSSIBLE);
                }
            }
        }
        DUE.due("ways off the board", off, 63 * 6 - 2 * RIVERS_THERE_MAY_BE);
        DUE.due("rivers", x.count(9), 0);
        DUE.due("acts", x.count(12), 0);
    }

    private static void riversThatAreSoAlready() {
        DUE.sentence("Lays a river between a hex and the one in a direction from it, or takes it away.");
        for (int direction = 0; direction <= 5; direction++) {
            RiverCampaign x = new RiverCampaign();
            int other = besideByHand(31, direction);
            int back = (direction + 3) % 6;
            DUE.due("none to be taken", x.river(31, direction, false), NONE);
            DUE.due("none to be taken from the other", x.river(other, back, false), NONE);
            DUE.due("lay", x.river(31, direction, true), 1);
            DUE.due("lay again", x.river(31, direction, true), NONE);
            DUE.due("lay again from the other", x.river(other, back, true), NONE);
            DUE.due("bits of the other", x.hex(other, 1), 1 << back);
            DUE.due("take from the other", x.river(other, back, false), 0);
            DUE.due("bits then", x.hex(31, 1), 0);
            DUE.due("bits of the other then", x.hex(other, 1), 0);
            DUE.due("none to be taken then", x.river(31, direction, false), NONE);
            DUE.due("lay from the other", x.river(other, back, true), 1);
            DUE.due("take", x.river(31, direction, false), 0);
            DUE.due("bits again", x.hex(31, 1), 0);
            DUE.due("bits of the other again", x.hex(other, 1), 0);
        }
    }

    private static void allRivers() {
        DUE.sentence("Between two hexes that are beside one another there may be a river (none at first).");
        RiverCampaign x = new RiverCampaign();
        int laid = 0;
        for (int hex = 0; hex < 63; hex++) {
            // The directions 0, 4 and 5 lead to higher numbers, so each river is laid once.
            for (int direction : new int[] {0, 4, 5}) {
                if (besideByHand(hex, direction) != NONE) {
                    laid++;
                    DUE.due("river " + laid, x.river(hex, direction, true), laid);
                }
            }
        }
        DUE.due("all rivers", x.count(9), RIVERS_THERE_MAY_BE);
        for (int hex = 0; hex < 63; hex++) {
            int bits = 0;
            for (int direction = 0; direction <= 5; direction++) {
                bits |= besideByHand(hex, direction) == NONE ? 0 : 1 << direction;
            }
            DUE.due("bits of " + hex, x.hex(hex, 1), bits);
        }
        DUE.due("take one", x.river(62, 3, false), RIVERS_THERE_MAY_BE - 1);
    }

    private static void fortSides() {
        DUE.sentence("- `side`: 0 or 1, or 2 to pull it down");
        RiverCampaign x = new RiverCampaign();
        DUE.due("side -1", x.fort(31, -1), BAD_VALUE);
        DUE.due("side 3", x.fort(31, 3), BAD_VALUE);
        for (int side : FAR_OUT) {
            DUE.due("side " + side, x.fort(31, side), BAD_VALUE);
        }
        DUE.due("side 1", x.fort(31, 1), 1);
        DUE.due("side -1 on a fort", x.fort(31, -1), BAD_VALUE);
        DUE.due("side 3 on a fort", x.fort(31, 3), BAD_VALUE);
        DUE.due("side 2", x.fort(31, 2), 0);
        DUE.due("side 0", x.fort(31, 0), 1);
        DUE.due("fort of 0", x.hex(31, 2), 0);
    }

    private static void fortsThatAreSoAlready() {
        DUE.sentence("NONE if there is one already, or none to be pulled down.");
        for (int side = 0; side <= 1; side++) {
            RiverCampaign x = new RiverCampaign();
            DUE.due("none to be pulled down", x.fort(31, 2), NONE);
            x.fort(31, side);
            DUE.due("one of 0 on it", x.fort(31, 0), NONE);
            DUE.due("one of 1 on it", x.fort(31, 1), NONE);
            DUE.due("side", x.hex(31, 2), side);
            DUE.due("pull down", x.fort(31, 2), 0);
            DUE.due("pull down again", x.fort(31, 2), NONE);
            DUE.due("acts", x.count(12), 2);
        }
    }

    private static void allForts() {
        DUE.sentence("Returns how many forts there are then");
        RiverCampaign x = new RiverCampaign();
        for (int hex = 0; hex < 63; hex++) {
            DUE.due("fort " + hex, x.fort(hex, hex % 2), hex + 1);
        }
        DUE.due("forts of 0", x.count(7), 32);
        DUE.due("forts of 1", x.count(8), 31);
        DUE.due("no more", x.fort(62, 0), NONE);
        for (int hex = 62; hex >= 0; hex--) {
            DUE.due("without the fort " + hex, x.fort(hex, 2), hex);
        }
        DUE.due("forts of 0 then", x.count(7), 0);
        DUE.due("forts of 1 then", x.count(8), 0);
    }

    private static void baseSides() {
        DUE.sentence("Returns where it was; UNKNOWN (side or hex); NONE if it is there already.");
        RiverCampaign x = new RiverCampaign();
        DUE.due("side -1", x.base(-1, 31), UNKNOWN);
        DUE.due("side 2", x.base(2, 31), UNKNOWN);
        for (int side : FAR_OUT) {
            DUE.due("side " + side, x.base(side, 31), UNKNOWN);
        }
        DUE.due("side 0", x.base(0, 0), 27);
        DUE.due("side 1", x.base(1, 62), 35);
        DUE.due("both on one hex", x.base(0, 62), 0);
        DUE.due("back to 0", x.base(1, 0), 62);
        DUE.due("base of 0", x.count(14), 62);
        DUE.due("base of 1", x.count(15), 0);
    }

    private static void basesThatAreThereAlready() {
        DUE.sentence("Each side has one base, a hex");
        RiverCampaign x = new RiverCampaign();
        DUE.due("0 there at first", x.base(0, 27), NONE);
        DUE.due("1 there at first", x.base(1, 35), NONE);
        DUE.due("acts", x.count(12), 0);
        DUE.due("0 to that of 1", x.base(0, 35), 27);
        DUE.due("0 there", x.base(0, 35), NONE);
        DUE.due("1 still there", x.base(1, 35), NONE);
        DUE.due("acts then", x.count(12), 1);
    }

    private static void whatOfHexes() {
        DUE.sentence("8 for the hexes beside it (how many)");
        RiverCampaign x = new RiverCampaign();
        DUE.due("what -1", x.hex(31, -1), BAD_VALUE);
        DUE.due("what 9", x.hex(31, 9), BAD_VALUE);
        for (int what : FAR_OUT) {
            DUE.due("what " + what, x.hex(31, what), BAD_VALUE);
        }
        int all = 0;
        for (int hex = 0; hex < 63; hex++) {
            int count = 0;
            for (int direction = 0; direction <= 5; direction++) {
                count += besideByHand(hex, direction) == NONE ? 0 : 1;
            }
            DUE.due("hexes beside " + hex, x.hex(hex, 8), count);
            all += count;
        }
        DUE.due("all of them", all, 2 * RIVERS_THERE_MAY_BE);
        DUE.sentence("2 for the side to which a fort there belongs (NONE without one)");
        DUE.due("no fort", x.hex(31, 2), NONE);
        x.fort(31, 1);
        DUE.due("fort of 1", x.hex(31, 2), 1);
        DUE.sentence("3 for the unit that stands there (NONE without one)");
        DUE.due("no unit", x.hex(31, 3), NONE);
        x.place(1, 1, 31);
        DUE.due("unit 0", x.hex(31, 3), 0);
        DUE.due("no unit beside it", x.hex(32, 3), NONE);
    }

    private static void besideDirections() {
        DUE.sentence("Returns the hex in the direction; UNKNOWN; BAD_VALUE; NONE if there is none.");
        for (int hex : new int[] {0, 31, 62}) {
            RiverCampaign x = new RiverCampaign();
            DUE.due("direction -1", x.beside(hex, -1), BAD_VALUE);
            DUE.due("direction 6", x.beside(hex, 6), BAD_VALUE);
            for (int direction : FAR_OUT) {
                DUE.due("direction " + direction, x.beside(hex, direction), BAD_VALUE);
            }
        }
    }

    private static void besidesOfAllHexes() {
        DUE.sentence("In an even row, up right and down right are the column c, up left and down left the column c - 1");
        RiverCampaign x = new RiverCampaign();
        for (int hex = 0; hex < 63; hex++) {
            for (int direction = 0; direction <= 5; direction++) {
                DUE.due("beside(" + hex + ", " + direction + ")", x.beside(hex, direction),
                    besideByHand(hex, direction));
            }
        }
    }

    /** The directions by the places of the middles of the hexes, in halves of a hex to the right and rows down. */
    private static int besideByHand(int hex, int direction) {
        int[] halves = {2, 1, -1, -2, -1, 1};
        int[] rows = {0, -1, -1, 0, 1, 1};
        for (int other = 0; other < 63; other++) {
            if (halvesToTheRight(other) - halvesToTheRight(hex) == halves[direction]
                && other / 9 - hex / 9 == rows[direction]) {
                return other;
            }
        }
        return NONE;
    }
}
