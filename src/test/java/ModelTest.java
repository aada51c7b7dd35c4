import java.util.ArrayList;
import java.util.List;
import java.util.Random;

/** Random runs of at most 512 calls on the program and on the model, whose answers have to be the same. */
public final class ModelTest {
    private static final int RUNS = 600;
    private static final int CALLS = 512;
    /** The most calls that one step of a run makes: a text is emptied, typed and performed. */
    private static final int CALLS_OF_A_STEP = 30;

    private final Random random;
    private final RiverCampaign x = new RiverCampaign();
    private final Model m = new Model();
    /** Runs crowd around one hex, so that units meet. */
    private final int centre;
    private final int spread;
    private final int wrongInputs;
    private final List<String> calls = new ArrayList<>();
    private static final int[] ANSWERS = new int[22 * 3];

    private ModelTest(int run) {
        random = new Random(run);
        centre = random.nextInt(63);
        spread = 1 + random.nextInt(5);
        wrongInputs = random.nextInt(2) * 60 + 15;
    }

    public static void main(String[] args) {
        int runs = args.length > 0 ? Integer.parseInt(args[0]) : RUNS;
        for (int run = 0; run < runs; run++) {
            ModelTest test = new ModelTest(run);
            while (test.calls.size() <= CALLS - CALLS_OF_A_STEP) {
                if (!test.sameAnswer()) {
                    System.out.println("run " + run + " differs at its last call:");
                    test.calls.forEach(System.out::println);
                    System.exit(1);
                }
            }
        }
        for (int method = 0; method < 22; method++) {
            // A run that meets no success, no error or no NONE of a method would judge nothing.
            System.out.println("method " + method + ": " + ANSWERS[3 * method] + " good, " + ANSWERS[3 * method + 1]
                + " errors, " + ANSWERS[3 * method + 2] + " none");
        }
    }

    private int hexNear() {
        if (random.nextInt(wrongInputs) == 0) {
            return random.nextInt(70) - 4;
        }
        for (int i = 0; i < 200; i++) {
            int hex = random.nextInt(63);
            if (m.distance(centre, hex) <= spread) {
                return hex;
            }
        }
        return centre;
    }

    private int number(int above) {
        return random.nextInt(wrongInputs) == 0 ? random.nextInt(above + 6) - 3 : random.nextInt(above);
    }

    private int someUnit() {
        int units = Math.max(1, m.count(2));
        for (int i = 0; i < 4; i++) {
            int unit = random.nextInt(units);
            if (m.unit(unit, 0) == m.count(1)) {
                return unit;
            }
        }
        return number(units);
    }

    /** An enemy beside the unit, if there is one. */
    private int target(int unit) {
        for (int i = 0; i < 12 && m.unit(unit, 0) >= 0; i++) {
            int hex = m.beside(m.unit(unit, 2), random.nextInt(6));
            if (hex >= 0 && m.would(unit, hex, 0) >= 0) {
                return hex;
            }
        }
        return hexNear();
    }

    /** A hex that the unit can reach, if one is found. */
    private int goal(int unit) {
        for (int i = 0; i < 6; i++) {
            int hex = hexNear();
            if (m.cost(unit, hex) >= 0) {
                return hex;
            }
        }
        return hexNear();
    }

    private boolean same(int method, String call, int got, int due) {
        calls.add(call + " -> " + got + ", due " + due);
        ANSWERS[3 * method + (due >= 0 ? 0 : due == -5 ? 2 : 1)]++;
        return got == due;
    }

    private boolean sameAnswer() {
        int a = hexNear();
        int b = hexNear();
        int u = someUnit();
        int t = target(u);
        int dice = random.nextInt(100);
        if (dice < 4) {
            int kind = number(3);
            return same(0, "ground " + a + " " + kind, x.ground(a, kind), m.ground(a, kind));
        } else if (dice < 9) {
            int direction = number(6);
            boolean is = random.nextInt(3) > 0;
            return same(1, "river " + a + " " + direction + " " + is, x.river(a, direction, is),
                m.river(a, direction, is));
        } else if (dice < 11) {
            int side = number(3);
            return same(2, "fort " + a + " " + side, x.fort(a, side), m.fort(a, side));
        } else if (dice < 12) {
            int side = number(2);
            return same(3, "base " + side + " " + a, x.base(side, a), m.base(side, a));
        } else if (dice < 17) {
            int side = number(2);
            int strength = 1 + number(9);
            return same(4, "place " + side + " " + strength + " " + a, x.place(side, strength, a),
                m.place(side, strength, a));
        } else if (dice < 27) {
            int hex = random.nextInt(3) == 0 ? a : goal(u);
            return same(5, "move " + u + " " + hex, x.move(u, hex), m.move(u, hex));
        } else if (dice < 34) {
            return same(6, "attack " + u + " " + t, x.attack(u, t), m.attack(u, t));
        } else if (dice < 38) {
            return same(7, "endTurn", x.endTurn(), m.endTurn());
        } else if (dice < 43) {
            return sameText();
        } else if (dice < 47) {
            return same(11, "undo", x.undo(), m.undo());
        } else if (dice < 48) {
            return same(12, "keep", x.keep(), m.keep());
        } else if (dice < 49) {
            return same(13, "restore", x.restore(), m.restore());
        } else if (dice < 62) {
            int what = number(9);
            return same(14, "hex " + a + " " + what, x.hex(a, what), m.hex(a, what));
        } else if (dice < 63) {
            int direction = number(6);
            return same(15, "beside " + a + " " + direction, x.beside(a, direction), m.beside(a, direction));
        } else if (dice < 64) {
            return same(16, "distance " + a + " " + b, x.distance(a, b), m.distance(a, b));
        } else if (dice < 79) {
            int what = number(10);
            return same(17, "unit " + u + " " + what, x.unit(u, what), m.unit(u, what));
        } else if (dice < 83) {
            return same(18, "cost " + u + " " + a, x.cost(u, a), m.cost(u, a));
        } else if (dice < 91) {
            int what = number(4);
            return same(19, "would " + u + " " + t + " " + what, x.would(u, t, what), m.would(u, t, what));
        } else if (dice < 93) {
            return same(20, "besieged " + a, x.besieged(a), m.besieged(a));
        }
        int what = number(16);
        return same(21, "count " + what, x.count(what), m.count(what));
    }

    /** Now and then a text that is typed; otherwise one that is there, performed. */
    private boolean sameText() {
        int dice = random.nextInt(6);
        if (dice == 0) {
            return same(8, "perform", x.perform(), m.perform());
        }
        if (dice > 1 && !same(10, "clearText", x.clearText(), m.clearText())) {
            return false;
        }
        String text = someText();
        for (int i = 0; i < text.length(); i++) {
            char c = text.charAt(i);
            if (!same(9, "type " + c, x.type(c), m.type(c))) {
                return false;
            }
        }
        return same(8, "perform", x.perform(), m.perform());
    }

    private String someText() {
        StringBuilder text = new StringBuilder();
        int orders = 1 + random.nextInt(3);
        for (int i = 0; i < orders; i++) {
            text.append(i == 0 ? "" : ";");
            int unit = someUnit();
            int kind = random.nextInt(4);
            int hex = kind == 0 ? target(unit) : goal(unit);
            if (kind == 3 || hex < 0 || hex > 62) {
                text.append('.');
            } else {
                text.append(unit).append(kind == 0 ? '!' : '>');
                text.append((char) ('a' + hex % 9)).append(hex / 9 + 1);
            }
        }
        if (random.nextInt(4) == 0) {
            String signs = "0123456789.;!>abij \u00e9\u2603";
            text.setCharAt(random.nextInt(text.length()), signs.charAt(random.nextInt(signs.length())));
        }
        return text.toString();
    }
}
