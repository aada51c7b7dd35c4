import java.util.Arrays;

/**
 * A campaign of two sides on a board of hexes with rivers.
 *
 * <p>All rows are made in the constructors and used again, so that no call makes an object.
 */
public final class RiverCampaign {
    /** There is no such hex, side or unit (or it is gone). */
    public static final int UNKNOWN = -1;
    /** Another argument is out of range. */
    public static final int BAD_VALUE = -2;
    /** There is no more room. */
    public static final int FULL = -3;
    /** This is not possible. */
    public static final int NOT_POSSIBLE = -4;
    /** There is no such thing; not an error. */
    public static final int NONE = -5;

    private static final int MAX_STRENGTH = 9;
    private static final int MAX_TURNS = 999;
    private static final int STARVING_TURNS = 2;
    private static final int NO_FORT_WANTED = 2;
    private static final int FIRST_FAULT = -100;

    private final Board board;
    private final State now;
    private final State past;
    private final State snapshot;
    private boolean hasSnapshot;
    private final History history;
    private final Orders orders;
    private final Ways ways;
    private final Supply supply;
    private final Fight fight;

    /** Creates a plain board without units. */
    public RiverCampaign() {
        board = new Board();
        now = new State(board);
        past = new State(board);
        snapshot = new State(board);
        history = new History(board);
        orders = new Orders();
        ways = new Ways(board);
        supply = new Supply(board);
        fight = new Fight(board, supply);
    }

    // ---- the board

    /** Sets the ground of a hex. */
    public int ground(int hex, int kind) {
        if (!Board.isHex(hex)) {
            return UNKNOWN;
        }
        if (kind < State.PLAIN || kind > State.HILL) {
            return BAD_VALUE;
        }
        int previous = now.grounds[hex];
        if (previous == kind) {
            return NONE;
        }
        history.record(now);
        now.grounds[hex] = kind;
        return previous;
    }

    /** Lays a river between a hex and the one in a direction from it, or takes it away. */
    public int river(int hex, int direction, boolean is) {
        if (!Board.isHex(hex)) {
            return UNKNOWN;
        }
        if (!Board.isDirection(direction)) {
            return BAD_VALUE;
        }
        int other = board.neighbours[hex * Board.DIRECTIONS + direction];
        if (!Board.isHex(other)) {
            return NOT_POSSIBLE;
        }
        if (now.hasRiver(hex, direction) == is) {
            return NONE;
        }
        history.record(now);
        now.rivers[hex] ^= 1 << direction;
        now.rivers[other] ^= 1 << Board.opposite(direction);
        return now.riverCount();
    }

    /** Builds a fort for a side, or pulls one down. */
    public int fort(int hex, int side) {
        if (!Board.isHex(hex)) {
            return UNKNOWN;
        }
        if (!isSide(side) && side != NO_FORT_WANTED) {
            return BAD_VALUE;
        }
        boolean wanted = side != NO_FORT_WANTED;
        if (wanted == now.hasFort(hex)) {
            return NONE;
        }
        history.record(now);
        now.forts[hex] = wanted ? side : State.NOBODY;
        now.giveFortToUnit(hex);
        return now.fortCount(0) + now.fortCount(1);
    }

    /** Moves the base of a side. */
    public int base(int side, int hex) {
        if (!isSide(side) || !Board.isHex(hex)) {
            return UNKNOWN;
        }
        int previous = now.bases[side];
        if (previous == hex) {
            return NONE;
        }
        history.record(now);
        now.bases[side] = hex;
        return previous;
    }

    // ---- units

    /** Places a unit. */
    public int place(int side, int strength, int hex) {
        if (!isSide(side) || !Board.isHex(hex)) {
            return UNKNOWN;
        }
        if (strength < 1 || strength > MAX_STRENGTH) {
            return BAD_VALUE;
        }
        if (now.units >= State.MAX_UNITS) {
            return FULL;
        }
        if (now.sideOn(hex) != State.NOBODY) {
            return NOT_POSSIBLE;
        }
        history.record(now);
        return now.addUnit(side, strength, hex);
    }

    /** Moves a unit. */
    public int move(int unit, int hex) {
        past.copyFrom(now);
        return recordedIfDone(moveUnit(unit, hex));
    }

    /** Attacks the enemy on a hex. */
    public int attack(int unit, int hex) {
        past.copyFrom(now);
        return recordedIfDone(strike(unit, hex));
    }

    /** Ends the turn. */
    public int endTurn() {
        past.copyFrom(now);
        return recordedIfDone(finishTurn());
    }

    /** Does the orders of the text, all of them or none. */
    public int perform() {
        int fault = orders.read();
        if (fault != Orders.NO_FAULT) {
            return FIRST_FAULT - fault;
        }
        past.copyFrom(now);
        for (int i = 0; i < orders.count; i++) {
            int answer;
            if (orders.signs[i] == Orders.MOVE) {
                answer = moveUnit(orders.units[i], orders.hexes[i]);
            } else if (orders.signs[i] == Orders.ATTACK) {
                answer = strike(orders.units[i], orders.hexes[i]);
            } else {
                answer = finishTurn();
            }
            if (answer < 0 && answer != NONE) {
                now.copyFrom(past);
                return answer;
            }
        }
        return recordedIfDone(orders.count);
    }

    /** Takes the answer of an act on {@code now}; {@code past} is the state that was before it. */
    private int recordedIfDone(int answer) {
        if (answer >= 0) {
            history.record(past);
        }
        return answer;
    }

    private int moveUnit(int unit, int hex) {
        if (!now.isUnit(unit) || !Board.isHex(hex)) {
            return UNKNOWN;
        }
        if (now.sides[unit] != now.sideInTurn()) {
            return NOT_POSSIBLE;
        }
        if (now.hexes[unit] == hex) {
            return NONE;
        }
        ways.measure(now, unit);
        if (!ways.canEndOn(now, hex)) {
            return NOT_POSSIBLE;
        }
        now.points[unit] -= ways.costs[hex];
        now.shift(unit, hex);
        return now.points[unit];
    }

    private int strike(int unit, int hex) {
        if (!now.isUnit(unit) || !Board.isHex(hex)) {
            return UNKNOWN;
        }
        if (now.sides[unit] != now.sideInTurn() || now.attacksLeft[unit] == 0 || !canFight(unit, hex)) {
            return NOT_POSSIBLE;
        }
        int defender = now.unitOn[hex];
        fight.weigh(now, unit, defender);
        now.attacksLeft[unit]--;
        now.setStrength(unit, fight.attackerLeft);
        now.setStrength(defender, fight.defenderLeft);
        if (fight.defenderLeft == 0) {
            now.shift(unit, hex);
        }
        return fight.defenderLeft;
    }

    private boolean canFight(int unit, int hex) {
        return now.sideOn(hex) == 1 - now.sides[unit]
            && board.directionTo(now.hexes[unit], hex) != Board.NOWHERE;
    }

    private int finishTurn() {
        if (now.turns >= MAX_TURNS) {
            return FULL;
        }
        int gone = starve(now.sideInTurn());
        now.turns++;
        now.refresh(now.sideInTurn());
        return gone;
    }

    private int starve(int side) {
        // Measured once, ahead of all losses: a unit that is gone must not change the supply of the next.
        supply.measure(now, side);
        int gone = 0;
        for (int unit = 0; unit < now.units; unit++) {
            if (!now.isUnitOf(unit, side)) {
                continue;
            }
            if (supply.reaches(now.hexes[unit])) {
                now.starved[unit] = 0;
                continue;
            }
            now.starved[unit]++;
            if (now.starved[unit] >= STARVING_TURNS) {
                now.setStrength(unit, now.strengths[unit] - 1);
                gone += now.isUnit(unit) ? 0 : 1;
            }
        }
        return gone;
    }

    // ---- texts

    /** Types a character behind the text. */
    public int type(char character) {
        return orders.append(character) ? orders.length : FULL;
    }

    /** Empties the text. */
    public int clearText() {
        int previous = orders.length;
        orders.length = 0;
        return previous;
    }

    // ---- history

    /** Removes and restores the latest state of the history. */
    public int undo() {
        return history.takeBack(now) ? history.size : NONE;
    }

    /** Takes a snapshot of the state, in place of the one that was. */
    public int keep() {
        snapshot.copyFrom(now);
        hasSnapshot = true;
        return now.turns;
    }

    /** Restores the state of the snapshot, which stays. */
    public int restore() {
        if (!hasSnapshot) {
            return NONE;
        }
        history.record(now);
        now.copyFrom(snapshot);
        return now.turns;
    }

    // ---- what is told

    /** Tells one thing about a hex. */
    public int hex(int hex, int what) {
        if (!Board.isHex(hex)) {
            return UNKNOWN;
        }
        switch (what) {
            case 0:
                return now.grounds[hex];
            case 1:
                return now.rivers[hex];
            case 2:
                return now.hasFort(hex) ? now.forts[hex] : NONE;
            case 3:
                return now.sideOn(hex) != State.NOBODY ? now.unitOn[hex] : NONE;
            case 4:
            case 5:
                return oneIf(now.inZone(what - 4, hex));
            case 6:
            case 7:
                return oneIf(now.isSeen(what - 6, hex));
            case 8:
                return board.neighbourCount(hex);
            default:
                return BAD_VALUE;
        }
    }

    /** Tells the hex in a direction from another. */
    public int beside(int hex, int direction) {
        if (!Board.isHex(hex)) {
            return UNKNOWN;
        }
        if (!Board.isDirection(direction)) {
            return BAD_VALUE;
        }
        int other = board.neighbours[hex * Board.DIRECTIONS + direction];
        return Board.isHex(other) ? other : NONE;
    }

    /** Tells the distance of two hexes. */
    public int distance(int one, int other) {
        if (!Board.isHex(one) || !Board.isHex(other)) {
            return UNKNOWN;
        }
        return Board.stepsBetween(one, other);
    }

    /** Tells one thing about a unit. */
    public int unit(int unit, int what) {
        if (!now.isUnit(unit)) {
            return UNKNOWN;
        }
        int side = now.sides[unit];
        int hex = now.hexes[unit];
        switch (what) {
            case 0:
                return side;
            case 1:
                return now.strengths[unit];
            case 2:
                return hex;
            case 3:
                return now.points[unit];
            case 4:
                return now.attacksLeft[unit];
            case 5:
                supply.measure(now, side);
                return oneIf(supply.reaches(hex));
            case 6:
                supply.measure(now, side);
                return supply.reaches(hex) ? supply.steps[hex] : NONE;
            case 7:
                return now.starved[unit];
            case 8:
                ways.measure(now, unit);
                return ways.endCount(now);
            case 9:
                return oneIf(now.isSeen(1 - side, hex));
            default:
                return BAD_VALUE;
        }
    }

    /** Tells what it costs a unit to reach a hex. */
    public int cost(int unit, int hex) {
        if (!now.isUnit(unit) || !Board.isHex(hex)) {
            return UNKNOWN;
        }
        if (now.hexes[unit] == hex) {
            return 0;
        }
        ways.measure(now, unit);
        return ways.canEndOn(now, hex) ? ways.costs[hex] : NONE;
    }

    /** Tells what a fight would bring, whosever turn it is. */
    public int would(int unit, int hex, int what) {
        if (!now.isUnit(unit) || !Board.isHex(hex)) {
            return UNKNOWN;
        }
        if (what < 0 || what > 3) {
            return BAD_VALUE;
        }
        if (!canFight(unit, hex)) {
            return NOT_POSSIBLE;
        }
        fight.weigh(now, unit, now.unitOn[hex]);
        switch (what) {
            case 0:
                return fight.attackPower;
            case 1:
                return fight.defencePower;
            case 2:
                return fight.attackerLeft;
            default:
                return fight.defenderLeft;
        }
    }

    /** Tells whether a fort is besieged. */
    public int besieged(int hex) {
        if (!Board.isHex(hex)) {
            return UNKNOWN;
        }
        if (!now.hasFort(hex)) {
            return NONE;
        }
        int enemy = 1 - now.forts[hex];
        for (int direction = 0; direction < Board.DIRECTIONS; direction++) {
            int other = board.neighbours[hex * Board.DIRECTIONS + direction];
            if (Board.isHex(other) && !now.inZone(enemy, other) && now.sideOn(other) != enemy) {
                return 0;
            }
        }
        return 1;
    }

    /** Tells one number about the whole campaign. */
    public int count(int what) {
        switch (what) {
            case 0:
                return now.turns;
            case 1:
                return now.sideInTurn();
            case 2:
                return now.units;
            case 3:
            case 4:
                return now.unitCount(what - 3);
            case 5:
            case 6:
                return now.strengthOf(what - 5);
            case 7:
            case 8:
                return now.fortCount(what - 7);
            case 9:
                return now.riverCount();
            case 10:
            case 11:
                return now.seenCount(what - 10);
            case 12:
                return history.size;
            case 13:
                return orders.length;
            case 14:
            case 15:
                return now.bases[what - 14];
            default:
                return BAD_VALUE;
        }
    }

    private static boolean isSide(int side) {
        return side == 0 || side == 1;
    }

    private static int oneIf(boolean is) {
        return is ? 1 : 0;
    }

    /** Which hexes lie beside one another, and how far two are apart. */
    private static final class Board {
        static final int COLUMNS = 9;
        static final int ROWS = 7;
        static final int HEXES = COLUMNS * ROWS;
        static final int DIRECTIONS = 6;
        static final int NOWHERE = -1;

        // By direction. Odd rows lie half a hex to the right, so their slanting steps end one column further on.
        private static final int[] ROW_STEPS = {0, -1, -1, 0, 1, 1};
        private static final int[] EVEN_COLUMN_STEPS = {1, 0, -1, -1, -1, 0};
        private static final int[] ODD_COLUMN_STEPS = {1, 1, 0, -1, 0, 1};

        /** The hex in each direction from each hex, or NOWHERE, at hex * DIRECTIONS + direction. */
        final int[] neighbours;

        Board() {
            neighbours = new int[HEXES * DIRECTIONS];
            for (int hex = 0; hex < HEXES; hex++) {
                for (int direction = 0; direction < DIRECTIONS; direction++) {
                    neighbours[hex * DIRECTIONS + direction] = stepFrom(hex, direction);
                }
            }
        }

        static boolean isHex(int hex) {
            return hex >= 0 && hex < HEXES;
        }

        static boolean isDirection(int direction) {
            return direction >= 0 && direction < DIRECTIONS;
        }

        static int opposite(int direction) {
            return (direction + DIRECTIONS / 2) % DIRECTIONS;
        }

        private static int stepFrom(int hex, int direction) {
            int row = hex / COLUMNS;
            int[] columnSteps = row % 2 == 0 ? EVEN_COLUMN_STEPS : ODD_COLUMN_STEPS;
            int nextRow = row + ROW_STEPS[direction];
            int nextColumn = hex % COLUMNS + columnSteps[direction];
            boolean inside = nextRow >= 0 && nextRow < ROWS && nextColumn >= 0 && nextColumn < COLUMNS;
            return inside ? nextRow * COLUMNS + nextColumn : NOWHERE;
        }

        static int stepsBetween(int one, int other) {
            int rows = other / COLUMNS - one / COLUMNS;
            int slants = slantOf(other) - slantOf(one);
            return Math.max(Math.abs(rows), Math.max(Math.abs(slants), Math.abs(rows + slants)));
        }

        /** The column in a grid each of whose rows lies half a hex further right: a step is the same in all of them. */
        private static int slantOf(int hex) {
            return hex % COLUMNS - hex / COLUMNS / 2;
        }

        int neighbourCount(int hex) {
            int count = 0;
            for (int direction = 0; direction < DIRECTIONS; direction++) {
                count += isHex(neighbours[hex * DIRECTIONS + direction]) ? 1 : 0;
            }
            return count;
        }

        /** The direction in which a hex lies beside another, or NOWHERE. */
        int directionTo(int from, int to) {
            for (int direction = 0; direction < DIRECTIONS; direction++) {
                if (neighbours[from * DIRECTIONS + direction] == to) {
                    return direction;
                }
            }
            return NOWHERE;
        }
    }

    /**
     * All that an undo or a snapshot brings back, and what follows from it at once.
     *
     * <p>The face tests each hex, side and unit before it comes in here, so those in the rows are good as indexes.
     */
    private static final class State {
        static final int PLAIN = 0;
        static final int FOREST = 1;
        static final int HILL = 2;
        static final int MAX_UNITS = 16;
        static final int NOBODY = -1;
        private static final int FULL_POINTS = 4;
        private static final int ATTACKS_OF_A_TURN = 1;
        private static final int SIGHT_OF_UNITS = 2;
        private static final int SIGHT_INTO_FOREST = 1;

        private final Board board;

        final int[] grounds = new int[Board.HEXES];
        /** Bits by directions; each river stands at both of its hexes. */
        final int[] rivers = new int[Board.HEXES];
        /** The side of the fort on a hex, or NOBODY. */
        final int[] forts = new int[Board.HEXES];
        /** The unit on a hex, or NOBODY: the same as hexes tells, kept for short ways to it. */
        final int[] unitOn = new int[Board.HEXES];
        final int[] bases = {27, 35};

        int units;
        final int[] sides = new int[MAX_UNITS];
        /** 0 for a unit that is gone. */
        final int[] strengths = new int[MAX_UNITS];
        final int[] hexes = new int[MAX_UNITS];
        final int[] points = new int[MAX_UNITS];
        final int[] attacksLeft = new int[MAX_UNITS];
        final int[] starved = new int[MAX_UNITS];

        int turns;

        State(Board board) {
            this.board = board;
            Arrays.fill(forts, NOBODY);
            Arrays.fill(unitOn, NOBODY);
        }

        void copyFrom(State other) {
            System.arraycopy(other.grounds, 0, grounds, 0, Board.HEXES);
            System.arraycopy(other.rivers, 0, rivers, 0, Board.HEXES);
            System.arraycopy(other.forts, 0, forts, 0, Board.HEXES);
            System.arraycopy(other.unitOn, 0, unitOn, 0, Board.HEXES);
            System.arraycopy(other.bases, 0, bases, 0, 2);
            units = other.units;
            System.arraycopy(other.sides, 0, sides, 0, MAX_UNITS);
            System.arraycopy(other.strengths, 0, strengths, 0, MAX_UNITS);
            System.arraycopy(other.hexes, 0, hexes, 0, MAX_UNITS);
            System.arraycopy(other.points, 0, points, 0, MAX_UNITS);
            System.arraycopy(other.attacksLeft, 0, attacksLeft, 0, MAX_UNITS);
            System.arraycopy(other.starved, 0, starved, 0, MAX_UNITS);
            turns = other.turns;
        }

        int sideInTurn() {
            // The side 0 begins and the turns alternate.
            return turns % 2;
        }

        boolean isUnit(int unit) {
            return unit >= 0 && unit < units && unit < MAX_UNITS && strengths[unit] > 0;
        }

        boolean isUnitOf(int unit, int side) {
            return isUnit(unit) && sides[unit] == side;
        }

        /** The side of the unit on a hex, or NOBODY. */
        int sideOn(int hex) {
            int unit = unitOn[hex];
            return unit >= 0 && unit < MAX_UNITS ? sides[unit] : NOBODY;
        }

        boolean hasFort(int hex) {
            return forts[hex] != NOBODY;
        }

        boolean hasRiver(int hex, int direction) {
            return (rivers[hex] >> direction & 1) == 1;
        }

        /** Adds a unit that has all its points and its attack; asks for a free number and a free hex. */
        int addUnit(int side, int strength, int hex) {
            int unit = units;
            units++;
            sides[unit] = side;
            strengths[unit] = strength;
            points[unit] = FULL_POINTS;
            attacksLeft[unit] = ATTACKS_OF_A_TURN;
            starved[unit] = 0;
            stand(unit, hex);
            return unit;
        }

        void shift(int unit, int hex) {
            unitOn[hexes[unit]] = NOBODY;
            stand(unit, hex);
        }

        private void stand(int unit, int hex) {
            hexes[unit] = hex;
            unitOn[hex] = unit;
            giveFortToUnit(hex);
        }

        void giveFortToUnit(int hex) {
            if (hasFort(hex) && sideOn(hex) != NOBODY) {
                forts[hex] = sideOn(hex);
            }
        }

        void setStrength(int unit, int strength) {
            strengths[unit] = Math.max(strength, 0);
            if (strengths[unit] == 0) {
                unitOn[hexes[unit]] = NOBODY;
            }
        }

        void refresh(int side) {
            for (int unit = 0; unit < units; unit++) {
                if (isUnitOf(unit, side)) {
                    points[unit] = FULL_POINTS;
                    attacksLeft[unit] = ATTACKS_OF_A_TURN;
                }
            }
        }

        boolean inZone(int side, int hex) {
            for (int direction = 0; direction < Board.DIRECTIONS; direction++) {
                int other = board.neighbours[hex * Board.DIRECTIONS + direction];
                if (Board.isHex(other) && sideOn(other) == side) {
                    return true;
                }
            }
            return false;
        }

        boolean isSeen(int side, int hex) {
            return isSeenByUnit(side, hex) || isSeenByFort(side, hex);
        }

        private boolean isSeenByUnit(int side, int hex) {
            int range = grounds[hex] == FOREST ? SIGHT_INTO_FOREST : SIGHT_OF_UNITS;
            for (int unit = 0; unit < units; unit++) {
                if (isUnitOf(unit, side) && Board.stepsBetween(hexes[unit], hex) <= range) {
                    return true;
                }
            }
            return false;
        }

        private boolean isSeenByFort(int side, int hex) {
            if (forts[hex] == side) {
                return true;
            }
            for (int direction = 0; direction < Board.DIRECTIONS; direction++) {
                int other = board.neighbours[hex * Board.DIRECTIONS + direction];
                if (Board.isHex(other) && forts[other] == side) {
                    return true;
                }
            }
            return false;
        }

        int seenCount(int side) {
            int count = 0;
            for (int hex = 0; hex < Board.HEXES; hex++) {
                count += isSeen(side, hex) ? 1 : 0;
            }
            return count;
        }

        int unitCount(int side) {
            int count = 0;
            for (int unit = 0; unit < units; unit++) {
                count += isUnitOf(unit, side) ? 1 : 0;
            }
            return count;
        }

        int strengthOf(int side) {
            int sum = 0;
            for (int unit = 0; unit < units; unit++) {
                sum += isUnitOf(unit, side) ? strengths[unit] : 0;
            }
            return sum;
        }

        int fortCount(int side) {
            int count = 0;
            for (int hex = 0; hex < Board.HEXES; hex++) {
                count += forts[hex] == side ? 1 : 0;
            }
            return count;
        }

        int riverCount() {
            int ends = 0;
            for (int hex = 0; hex < Board.HEXES; hex++) {
                ends += Integer.bitCount(rivers[hex]);
            }
            return ends / 2;
        }
    }

    /** What it costs one unit to come to each hex. */
    private static final class Ways {
        private static final int UNREACHED = 1_000;

        private final Board board;

        /** The cheapest cost within the unit's points, also of hexes that it can only pass over; or UNREACHED. */
        final int[] costs = new int[Board.HEXES];

        Ways(Board board) {
            this.board = board;
        }

        void measure(State state, int unit) {
            int start = state.hexes[unit];
            int enemy = 1 - state.sides[unit];
            Arrays.fill(costs, UNREACHED);
            costs[start] = 0;
            // Each step costs a point at least, so the costs up to "spent" can't become less any more.
            for (int spent = 0; spent < state.points[unit]; spent++) {
                for (int hex = 0; hex < Board.HEXES; hex++) {
                    if (costs[hex] == spent && (hex == start || !state.inZone(enemy, hex))) {
                        goOn(state, unit, hex);
                    }
                }
            }
        }

        private void goOn(State state, int unit, int hex) {
            for (int direction = 0; direction < Board.DIRECTIONS; direction++) {
                int next = board.neighbours[hex * Board.DIRECTIONS + direction];
                if (!Board.isHex(next) || state.sideOn(next) == 1 - state.sides[unit]) {
                    continue;
                }
                int total = costs[hex] + costOfStep(state, hex, direction, next);
                if (total <= state.points[unit] && total < costs[next]) {
                    costs[next] = total;
                }
            }
        }

        private static int costOfStep(State state, int hex, int direction, int next) {
            int entering = state.grounds[next] == State.PLAIN ? 1 : 2;
            return state.hasRiver(hex, direction) ? entering + 1 : entering;
        }

        boolean canEndOn(State state, int hex) {
            return costs[hex] != UNREACHED && state.sideOn(hex) == State.NOBODY;
        }

        int endCount(State state) {
            int count = 0;
            for (int hex = 0; hex < Board.HEXES; hex++) {
                count += canEndOn(state, hex) ? 1 : 0;
            }
            return count;
        }
    }

    /** How far the hexes are from the sources of one side. */
    private static final class Supply {
        private static final int MAX_STEPS = 6;
        private static final int UNREACHED = 1_000;

        private final Board board;

        /** The steps by free hexes to the nearest source, or UNREACHED. */
        final int[] steps = new int[Board.HEXES];
        private final boolean[] free = new boolean[Board.HEXES];

        Supply(Board board) {
            this.board = board;
        }

        /**
         * Goes from the sources to the units, which is the same as from each unit to its sources: the hex of a
         * unit is free for its side, as the unit stands there.
         */
        void measure(State state, int side) {
            for (int hex = 0; hex < Board.HEXES; hex++) {
                free[hex] = isFree(state, side, hex);
                boolean isSource = state.bases[side] == hex || state.forts[hex] == side;
                steps[hex] = isSource && free[hex] ? 0 : UNREACHED;
            }
            for (int done = 0; done < MAX_STEPS; done++) {
                for (int hex = 0; hex < Board.HEXES; hex++) {
                    if (steps[hex] == done) {
                        spread(hex);
                    }
                }
            }
        }

        private void spread(int hex) {
            for (int direction = 0; direction < Board.DIRECTIONS; direction++) {
                int next = board.neighbours[hex * Board.DIRECTIONS + direction];
                if (Board.isHex(next) && free[next] && steps[next] == UNREACHED) {
                    steps[next] = steps[hex] + 1;
                }
            }
        }

        private static boolean isFree(State state, int side, int hex) {
            int standing = state.sideOn(hex);
            return standing == side || standing == State.NOBODY && !state.inZone(1 - side, hex);
        }

        boolean reaches(int hex) {
            return steps[hex] != UNREACHED;
        }
    }

    /** What one fight brings. */
    private static final class Fight {
        private final Board board;
        private final Supply supply;

        int attackPower;
        int defencePower;
        /** The strength that is left, 0 if the unit is gone. */
        int attackerLeft;
        int defenderLeft;

        Fight(Board board, Supply supply) {
            this.board = board;
            this.supply = supply;
        }

        /** Asks for two enemies that stand beside one another. */
        void weigh(State state, int attacker, int defender) {
            supply.measure(state, state.sides[attacker]);
            attackPower = powerOfAttack(state, attacker, state.hexes[defender]);
            supply.measure(state, state.sides[defender]);
            defencePower = powerOfDefence(state, defender);
            attackerLeft = state.strengths[attacker];
            defenderLeft = state.strengths[defender];
            int loss = 1 + Math.abs(attackPower - defencePower) / 4;
            if (attackPower > defencePower) {
                defenderLeft = Math.max(defenderLeft - loss, 0);
            } else {
                attackerLeft = Math.max(attackerLeft - loss, 0);
            }
        }

        private int powerOfAttack(State state, int unit, int target) {
            int hex = state.hexes[unit];
            int power = 2 * state.strengths[unit];
            if (!supply.reaches(hex)) {
                power /= 2;
            }
            int direction = board.directionTo(hex, target);
            return direction != Board.NOWHERE && state.hasRiver(hex, direction) ? power / 2 : power;
        }

        private int powerOfDefence(State state, int unit) {
            int hex = state.hexes[unit];
            int power = 2 * state.strengths[unit];
            if (state.hasFort(hex)) {
                power *= 2;
            }
            if (state.grounds[hex] != State.PLAIN) {
                power += 2;
            }
            return supply.reaches(hex) ? power : power / 2;
        }
    }

    /** The latest states, the oldest of which gives way when one more is recorded. */
    private static final class History {
        private static final int LIMIT = 4;

        private final State[] states = new State[LIMIT];
        private int next;
        int size;

        History(Board board) {
            for (int i = 0; i < LIMIT; i++) {
                states[i] = new State(board);
            }
        }

        void record(State state) {
            states[next].copyFrom(state);
            next = (next + 1) % LIMIT;
            size = Math.min(size + 1, LIMIT);
        }

        /** Removes the latest state and puts it into another one; tells whether there was one. */
        boolean takeBack(State into) {
            if (size == 0) {
                return false;
            }
            next = (next + LIMIT - 1) % LIMIT;
            size--;
            into.copyFrom(states[next]);
            return true;
        }
    }

    /** The text, and the orders that are read from it. */
    private static final class Orders {
        static final int NO_FAULT = -1;
        static final char MOVE = '>';
        static final char ATTACK = '!';
        static final char END = '.';

        private static final int MAX_LENGTH = 60;
        // An order of one character and a ";" are the least.
        private static final int MAX_ORDERS = MAX_LENGTH / 2;

        // What has been read, by which the next character is judged.
        private static final int REFUSED = -1;
        private static final int NOTHING = 0;
        private static final int DIGIT_ONE = 1;
        private static final int UNIT = 2;
        private static final int SIGN = 3;
        private static final int COLUMN = 4;
        private static final int ORDER = 5;

        private final char[] text = new char[MAX_LENGTH];
        int length;

        int count;
        final char[] signs = new char[MAX_ORDERS];
        final int[] units = new int[MAX_ORDERS];
        final int[] hexes = new int[MAX_ORDERS];

        private int unitRead;
        private char signRead;
        private int columnRead;

        /** Tells whether there was room. */
        boolean append(char character) {
            if (length >= MAX_LENGTH) {
                return false;
            }
            text[length] = character;
            length++;
            return true;
        }

        /** Reads the text into orders; returns its fault, or NO_FAULT. */
        int read() {
            count = 0;
            int stage = NOTHING;
            for (int i = 0; i < length; i++) {
                stage = stageAfter(stage, text[i]);
                if (stage == REFUSED) {
                    return i;
                }
            }
            return stage == ORDER ? NO_FAULT : length;
        }

        private int stageAfter(int stage, char character) {
            switch (stage) {
                case NOTHING:
                    return readFirst(character);
                case DIGIT_ONE:
                    return isIn(character, '0', '5') ? readUnit(10 + character - '0') : readSign(character);
                case UNIT:
                    return readSign(character);
                case SIGN:
                    return readColumn(character);
                case COLUMN:
                    return readRow(character);
                default:
                    return character == ';' ? NOTHING : REFUSED;
            }
        }

        private static boolean isIn(char character, char first, char last) {
            return character >= first && character <= last;
        }

        private int readFirst(char character) {
            if (character == END) {
                signRead = END;
                return addOrder(0);
            }
            if (!isIn(character, '0', '9')) {
                return REFUSED;
            }
            int stage = readUnit(character - '0');
            // Only behind a 1 can a second digit stand.
            return character == '1' ? DIGIT_ONE : stage;
        }

        private int readUnit(int unit) {
            unitRead = unit;
            return UNIT;
        }

        private int readSign(char character) {
            signRead = character;
            return character == MOVE || character == ATTACK ? SIGN : REFUSED;
        }

        private int readColumn(char character) {
            columnRead = character - 'a';
            return isIn(character, 'a', 'i') ? COLUMN : REFUSED;
        }

        private int readRow(char character) {
            int row = character - '1';
            return isIn(character, '1', '7') ? addOrder(row * Board.COLUMNS + columnRead) : REFUSED;
        }

        private int addOrder(int hex) {
            if (count < MAX_ORDERS) {
                signs[count] = signRead;
                units[count] = unitRead;
                hexes[count] = hex;
                count++;
            }
            return ORDER;
        }
    }
}
