import java.util.ArrayDeque;
import java.util.ArrayList;
import java.util.Deque;
import java.util.HashMap;
import java.util.HashSet;
import java.util.List;
import java.util.Map;
import java.util.Set;
import java.util.function.IntSupplier;
import java.util.regex.Matcher;
import java.util.regex.Pattern;

/**
 * The document once more, written down by other means than the program: places of hexes in half columns, all ways
 * one by one, supply from the unit outwards, texts by a regular expression. Slow, and only as a judge for the tests.
 */
final class Model {
    private static final String ORDER = "(?:(?:[0-9]|1[0-5])[>!][a-i][1-7]|\\.)";
    private static final Pattern ORDERS = Pattern.compile(ORDER + "(?:;" + ORDER + ")*");
    /** For each direction, by how many half columns and rows it leads on. */
    private static final int[][] STEPS = {{2, 0}, {1, -1}, {-1, -1}, {-2, 0}, {-1, 1}, {1, 1}};

    record Piece(int side, int strength, int hex, int points, boolean attack, int starved) {
        Piece on(int there, int left) {
            return new Piece(side, strength, there, left, attack, starved);
        }

        Piece with(int left) {
            return new Piece(side, left, hex, points, attack, starved);
        }

        boolean lives() {
            return strength > 0;
        }
    }

    /** A state; it is copied whole ahead of each change. */
    private static final class World {
        final Map<Integer, Integer> grounds = new HashMap<>();
        final Set<Set<Integer>> rivers = new HashSet<>();
        final Map<Integer, Integer> forts = new HashMap<>();
        final int[] bases = {27, 35};
        final List<Piece> pieces = new ArrayList<>();
        int turns;
        int side;

        World copy() {
            World copy = new World();
            copy.grounds.putAll(grounds);
            copy.rivers.addAll(rivers);
            copy.forts.putAll(forts);
            copy.bases[0] = bases[0];
            copy.bases[1] = bases[1];
            copy.pieces.addAll(pieces);
            copy.turns = turns;
            copy.side = side;
            return copy;
        }
    }

    private World w = new World();
    private World kept;
    private final Deque<World> history = new ArrayDeque<>();
    private String text = "";

    // ---- the board's places

    private static int across(int hex) {
        return 2 * (hex % 9) + hex / 9 % 2;
    }

    static int next(int hex, int direction) {
        int x = across(hex) + STEPS[direction][0];
        int y = hex / 9 + STEPS[direction][1];
        for (int other = 0; other < 63; other++) {
            if (across(other) == x && other / 9 == y) {
                return other;
            }
        }
        return -5;
    }

    private static final List<List<Integer>> AROUND = new ArrayList<>();
    private static final int[][] FAR = new int[63][63];

    static {
        for (int hex = 0; hex < 63; hex++) {
            List<Integer> around = new ArrayList<>();
            for (int d = 0; d < 6; d++) {
                if (next(hex, d) >= 0) {
                    around.add(next(hex, d));
                }
            }
            AROUND.add(around);
        }
        for (int hex = 0; hex < 63; hex++) {
            Set<Integer> ring = Set.of(hex);
            Set<Integer> seen = new HashSet<>(ring);
            for (int far = 0; !ring.isEmpty(); far++) {
                Set<Integer> following = new HashSet<>();
                for (int one : ring) {
                    FAR[hex][one] = far;
                    following.addAll(AROUND.get(one));
                }
                following.removeAll(seen);
                seen.addAll(following);
                ring = following;
            }
        }
    }

    private static boolean hexIs(int hex) {
        return 0 <= hex && hex <= 62;
    }

    private static boolean sideIs(int side) {
        return 0 <= side && side <= 1;
    }

    // ---- what holds in a state

    private boolean pieceIs(int unit) {
        return 0 <= unit && unit < w.pieces.size() && w.pieces.get(unit).lives();
    }

    private int standing(int hex) {
        for (int unit = 0; unit < w.pieces.size(); unit++) {
            if (pieceIs(unit) && w.pieces.get(unit).hex() == hex) {
                return unit;
            }
        }
        return -1;
    }

    private boolean stands(int side, int hex) {
        int unit = standing(hex);
        return unit >= 0 && w.pieces.get(unit).side() == side;
    }

    private boolean zone(int side, int hex) {
        return w.pieces.stream().anyMatch(p -> p.lives() && p.side() == side && FAR[p.hex()][hex] == 1);
    }

    private boolean sees(int side, int hex) {
        boolean forest = w.grounds.getOrDefault(hex, 0) == 1;
        int far = 99;
        for (Piece p : w.pieces) {
            if (p.lives() && p.side() == side) {
                far = Math.min(far, FAR[p.hex()][hex]);
            }
        }
        boolean byFort = w.forts.entrySet().stream().anyMatch(f -> f.getValue() == side && FAR[f.getKey()][hex] <= 1);
        return byFort || far <= 1 || far == 2 && !forest;
    }

    private boolean free(int side, int hex) {
        return !stands(1 - side, hex) && (!zone(1 - side, hex) || stands(side, hex));
    }

    private boolean source(int side, int hex) {
        return w.bases[side] == hex || w.forts.getOrDefault(hex, -1) == side;
    }

    /** The steps to the nearest source, from the unit outwards; -5 if it is not supplied. */
    private int supply(int unit) {
        Piece p = w.pieces.get(unit);
        Set<Integer> reached = new HashSet<>(Set.of(p.hex()));
        for (int steps = 0; steps <= 6; steps++) {
            if (reached.stream().anyMatch(hex -> source(p.side(), hex))) {
                return steps;
            }
            Set<Integer> more = new HashSet<>(reached);
            for (int hex : reached) {
                for (int other : AROUND.get(hex)) {
                    if (free(p.side(), other)) {
                        more.add(other);
                    }
                }
            }
            reached = more;
        }
        return -5;
    }

    private boolean riverAt(int one, int other) {
        return w.rivers.contains(Set.of(one, other));
    }

    /** Goes all ways, one by one. */
    private void walk(Piece p, int hex, int spent, Map<Integer, Integer> found) {
        found.merge(hex, spent, Math::min);
        if (hex != p.hex() && zone(1 - p.side(), hex)) {
            return;
        }
        for (int other : AROUND.get(hex)) {
            int cost = spent + (w.grounds.getOrDefault(other, 0) == 0 ? 1 : 2) + (riverAt(hex, other) ? 1 : 0);
            if (cost <= p.points() && !stands(1 - p.side(), other)) {
                walk(p, other, cost, found);
            }
        }
    }

    private Map<Integer, Integer> reach(int unit) {
        Map<Integer, Integer> found = new HashMap<>();
        walk(w.pieces.get(unit), w.pieces.get(unit).hex(), 0, found);
        found.keySet().removeIf(hex -> standing(hex) >= 0);
        return found;
    }

    private int[] fight(int attacker, int defender) {
        Piece a = w.pieces.get(attacker);
        Piece d = w.pieces.get(defender);
        int attack = a.strength() * 2;
        attack = supply(attacker) < 0 ? attack / 2 : attack;
        attack = riverAt(a.hex(), d.hex()) ? attack / 2 : attack;
        int defence = d.strength() * (w.forts.containsKey(d.hex()) ? 4 : 2);
        defence += w.grounds.getOrDefault(d.hex(), 0) > 0 ? 2 : 0;
        defence = supply(defender) < 0 ? defence / 2 : defence;
        int ofA = attack > defence ? a.strength() : Math.max(0, a.strength() - 1 - (defence - attack) / 4);
        int ofD = attack > defence ? Math.max(0, d.strength() - 1 - (attack - defence) / 4) : d.strength();
        return new int[] {attack, defence, ofA, ofD};
    }

    private boolean mayFight(int unit, int hex) {
        Piece p = w.pieces.get(unit);
        return stands(1 - p.side(), hex) && FAR[p.hex()][hex] == 1;
    }

    // ---- acts

    /** Does an act on a copy; keeps it, and the state before, if it returns no error. */
    private int act(IntSupplier act) {
        World before = w;
        w = before.copy();
        int answer = act.getAsInt();
        if (answer < 0) {
            w = before;
        } else {
            // A fort belongs to who stands on it, at the end of each act and (within perform) of each order.
            takeForts();
            history.addLast(before);
            if (history.size() > 4) {
                history.removeFirst();
            }
        }
        return answer;
    }

    private void takeForts() {
        w.forts.replaceAll((hex, side) -> standing(hex) < 0 ? side : w.pieces.get(standing(hex)).side());
    }

    int ground(int hex, int kind) {
        return act(() -> {
            if (!hexIs(hex)) {
                return -1;
            }
            if (kind < 0 || kind > 2) {
                return -2;
            }
            int was = w.grounds.getOrDefault(hex, 0);
            w.grounds.put(hex, kind);
            return was == kind ? -5 : was;
        });
    }

    int river(int hex, int direction, boolean is) {
        return act(() -> {
            if (!hexIs(hex)) {
                return -1;
            }
            if (direction < 0 || direction > 5) {
                return -2;
            }
            if (next(hex, direction) < 0) {
                return -4;
            }
            Set<Integer> banks = Set.of(hex, next(hex, direction));
            boolean changed = is ? w.rivers.add(banks) : w.rivers.remove(banks);
            return changed ? w.rivers.size() : -5;
        });
    }

    int fort(int hex, int side) {
        return act(() -> {
            if (!hexIs(hex)) {
                return -1;
            }
            if (side < 0 || side > 2) {
                return -2;
            }
            if (side == 2) {
                return w.forts.remove(hex) == null ? -5 : w.forts.size();
            }
            return w.forts.putIfAbsent(hex, side) == null ? w.forts.size() : -5;
        });
    }

    int base(int side, int hex) {
        return act(() -> {
            if (!sideIs(side) || !hexIs(hex)) {
                return -1;
            }
            int was = w.bases[side];
            w.bases[side] = hex;
            return was == hex ? -5 : was;
        });
    }

    int place(int side, int strength, int hex) {
        return act(() -> {
            if (!sideIs(side) || !hexIs(hex)) {
                return -1;
            }
            if (strength < 1 || strength > 9) {
                return -2;
            }
            if (w.pieces.size() == 16) {
                return -3;
            }
            if (standing(hex) >= 0) {
                return -4;
            }
            w.pieces.add(new Piece(side, strength, hex, 4, true, 0));
            return w.pieces.size() - 1;
        });
    }

    private int doMove(int unit, int hex) {
        if (!pieceIs(unit) || !hexIs(hex)) {
            return -1;
        }
        Piece p = w.pieces.get(unit);
        if (p.side() != w.side) {
            return -4;
        }
        if (p.hex() == hex) {
            return -5;
        }
        Integer cost = reach(unit).get(hex);
        if (cost == null) {
            return -4;
        }
        w.pieces.set(unit, p.on(hex, p.points() - cost));
        takeForts();
        return p.points() - cost;
    }

    private int doAttack(int unit, int hex) {
        if (!pieceIs(unit) || !hexIs(hex)) {
            return -1;
        }
        Piece p = w.pieces.get(unit);
        if (p.side() != w.side || !p.attack() || !mayFight(unit, hex)) {
            return -4;
        }
        int other = standing(hex);
        int[] fight = fight(unit, other);
        w.pieces.set(other, w.pieces.get(other).with(fight[3]));
        int there = fight[3] == 0 ? hex : p.hex();
        w.pieces.set(unit, new Piece(p.side(), fight[2], there, p.points(), false, p.starved()));
        takeForts();
        return fight[3];
    }

    private int doEndTurn() {
        if (w.turns == 999) {
            return -3;
        }
        int[] supplies = new int[16];
        for (int unit = 0; unit < w.pieces.size(); unit++) {
            supplies[unit] = pieceIs(unit) ? supply(unit) : 0;
        }
        int gone = 0;
        for (int unit = 0; unit < w.pieces.size(); unit++) {
            Piece p = w.pieces.get(unit);
            if (p.lives() && p.side() == w.side) {
                int starved = supplies[unit] < 0 ? p.starved() + 1 : 0;
                int strength = p.strength() - (starved >= 2 ? 1 : 0);
                gone += strength == 0 ? 1 : 0;
                w.pieces.set(unit, new Piece(p.side(), strength, p.hex(), p.points(), p.attack(), starved));
            }
        }
        w.turns++;
        w.side = 1 - w.side;
        w.pieces.replaceAll(p -> p.side() == w.side
            ? new Piece(p.side(), p.strength(), p.hex(), 4, true, p.starved()) : p);
        return gone;
    }

    int move(int unit, int hex) {
        return act(() -> doMove(unit, hex));
    }

    int attack(int unit, int hex) {
        return act(() -> doAttack(unit, hex));
    }

    int endTurn() {
        return act(this::doEndTurn);
    }

    int perform() {
        int fault = fault();
        if (fault >= 0) {
            return -100 - fault;
        }
        String[] orders = text.split(";");
        return act(() -> {
            for (String order : orders) {
                int answer = doOrder(order);
                if (answer < 0 && answer != -5) {
                    return answer;
                }
            }
            return orders.length;
        });
    }

    private int doOrder(String order) {
        if (order.equals(".")) {
            return doEndTurn();
        }
        int sign = order.length() - 3;
        int unit = Integer.parseInt(order.substring(0, sign));
        int hex = "abcdefghi".indexOf(order.charAt(sign + 1)) + 9 * (order.charAt(sign + 2) - '1');
        return order.charAt(sign) == '>' ? doMove(unit, hex) : doAttack(unit, hex);
    }

    private int fault() {
        for (int i = 0; i < text.length(); i++) {
            Matcher matcher = ORDERS.matcher(text.substring(0, i + 1));
            if (!matcher.matches() && !matcher.hitEnd()) {
                return i;
            }
        }
        return ORDERS.matcher(text).matches() ? -1 : text.length();
    }

    int type(char character) {
        if (text.length() == 60) {
            return -3;
        }
        text += character;
        return text.length();
    }

    int clearText() {
        int length = text.length();
        text = "";
        return length;
    }

    int undo() {
        if (history.isEmpty()) {
            return -5;
        }
        w = history.removeLast();
        return history.size();
    }

    int keep() {
        kept = w.copy();
        return w.turns;
    }

    int restore() {
        return kept == null ? -5 : act(() -> {
            w = kept.copy();
            return w.turns;
        });
    }

    // ---- what is told

    int hex(int hex, int what) {
        if (!hexIs(hex)) {
            return -1;
        }
        switch (what) {
            case 0: return w.grounds.getOrDefault(hex, 0);
            case 1:
                int bits = 0;
                for (int d = 0; d < 6; d++) {
                    bits += next(hex, d) >= 0 && riverAt(hex, next(hex, d)) ? 1 << d : 0;
                }
                return bits;
            case 2: return w.forts.getOrDefault(hex, -5);
            case 3: return standing(hex) < 0 ? -5 : standing(hex);
            case 4: return zone(0, hex) ? 1 : 0;
            case 5: return zone(1, hex) ? 1 : 0;
            case 6: return sees(0, hex) ? 1 : 0;
            case 7: return sees(1, hex) ? 1 : 0;
            case 8: return AROUND.get(hex).size();
            default: return -2;
        }
    }

    int beside(int hex, int direction) {
        if (!hexIs(hex)) {
            return -1;
        }
        return direction < 0 || direction > 5 ? -2 : next(hex, direction);
    }

    int distance(int one, int other) {
        return hexIs(one) && hexIs(other) ? FAR[one][other] : -1;
    }

    int unit(int unit, int what) {
        if (!pieceIs(unit)) {
            return -1;
        }
        Piece p = w.pieces.get(unit);
        switch (what) {
            case 0: return p.side();
            case 1: return p.strength();
            case 2: return p.hex();
            case 3: return p.points();
            case 4: return p.attack() ? 1 : 0;
            case 5: return supply(unit) < 0 ? 0 : 1;
            case 6: return supply(unit);
            case 7: return p.starved();
            case 8: return reach(unit).size();
            case 9: return sees(1 - p.side(), p.hex()) ? 1 : 0;
            default: return -2;
        }
    }

    int cost(int unit, int hex) {
        if (!pieceIs(unit) || !hexIs(hex)) {
            return -1;
        }
        return w.pieces.get(unit).hex() == hex ? 0 : reach(unit).getOrDefault(hex, -5);
    }

    int would(int unit, int hex, int what) {
        if (!pieceIs(unit) || !hexIs(hex)) {
            return -1;
        }
        if (what < 0 || what > 3) {
            return -2;
        }
        return mayFight(unit, hex) ? fight(unit, standing(hex))[what] : -4;
    }

    int besieged(int hex) {
        if (!hexIs(hex)) {
            return -1;
        }
        if (!w.forts.containsKey(hex)) {
            return -5;
        }
        int enemy = 1 - w.forts.get(hex);
        return AROUND.get(hex).stream().allMatch(other -> zone(enemy, other) || stands(enemy, other)) ? 1 : 0;
    }

    int count(int what) {
        int side = (what + 1) % 2;
        switch (what) {
            case 0: return w.turns;
            case 1: return w.side;
            case 2: return w.pieces.size();
            case 3: case 4: return (int) w.pieces.stream().filter(p -> p.lives() && p.side() == side).count();
            case 5: case 6: return w.pieces.stream().filter(p -> p.side() == side).mapToInt(Piece::strength).sum();
            case 7: case 8: return (int) w.forts.values().stream().filter(s -> s == side).count();
            case 9: return w.rivers.size();
            case 10: case 11:
                int seen = 0;
                for (int hex = 0; hex < 63; hex++) {
                    seen += sees(what - 10, hex) ? 1 : 0;
                }
                return seen;
            case 12: return history.size();
            case 13: return text.length();
            case 14: case 15: return w.bases[what - 14];
            default: return -2;
        }
    }
}
