import java.lang.reflect.Constructor;
import java.lang.reflect.Field;
import java.lang.reflect.Method;
import java.lang.reflect.Modifier;
import java.util.Arrays;

/** The document's name, what it is, and the public face. */
final class FaceSentences {
    private static final String[] METHODS = {
        "int ground(int hex, int kind)", "int river(int hex, int direction, boolean is)", "int fort(int hex, int side)",
        "int base(int side, int hex)", "int place(int side, int strength, int hex)", "int move(int unit, int hex)",
        "int attack(int unit, int hex)", "int endTurn()", "int perform()", "int type(char character)",
        "int clearText()", "int undo()", "int keep()", "int restore()", "int hex(int hex, int what)",
        "int beside(int hex, int direction)", "int distance(int one, int other)", "int unit(int unit, int what)",
        "int cost(int unit, int hex)", "int would(int unit, int hex, int what)", "int besieged(int hex)",
        "int count(int what)"};

    private FaceSentences() {
    }

    static void all(Walk w) {
        w.at("# RiverCampaign");
        w.is("the class bears the name", RiverCampaign.class.getName().equals("RiverCampaign"));
        w.over("## What it is");
        theBoard(w);
        theUnits(w);
        theRest(w);
        theCalls(w);
        face(w);
    }

    private static void theBoard(Walk w) {
        w.at("A campaign on a board of hexes with rivers:");
        RiverCampaign x = new RiverCampaign();
        w.due("hexes around 31", x.hex(31, 8), 6);
        w.due("river", x.river(31, 0, true), 1);
        w.at("ground of three kinds,");
        w.due("forest", x.ground(31, 1), 0);
        w.due("hill", x.ground(31, 2), 1);
        w.due("plain", x.ground(31, 0), 2);
        w.due("a fourth one", x.ground(31, 3), Play.BAD_VALUE);
        w.at("rivers between hexes,");
        w.due("on this side", x.hex(31, 1), 1);
        w.due("on that side", x.hex(32, 1), 8);
    }

    private static void theUnits(Walk w) {
        w.at("units of two sides,");
        RiverCampaign x = new RiverCampaign();
        w.due("one of 0", x.place(0, 5, 29), 0);
        w.due("one of 1", x.place(1, 5, 31), 1);
        w.due("none of 2", x.place(2, 5, 33), Play.UNKNOWN);
        w.at("ways that cost points,");
        w.due("one step", x.cost(0, 28), 1);
        w.due("two steps", x.move(0, 27), 2);
        w.at("zones of units that end a way,");
        RiverCampaign y = Play.units(0, 5, 29, 1, 5, 31);
        w.due("into the zone", y.cost(0, 30), 1);
        w.due("not behind it in 4", y.cost(0, 32), Play.NONE);
        w.at("supply from bases and forts over free hexes,");
        w.due("from the base", y.unit(0, 6), 2);
        y.fort(28, 0);
        w.due("from the fort", y.unit(0, 6), 1);
        y.place(1, 5, 37);
        y.place(1, 5, 19);
        w.due("over hexes that are not free", y.unit(0, 6), Play.NONE);
        w.at("sight and fog,");
        w.due("near", y.hex(20, 6), 1);
        w.due("far", y.hex(35, 6), 0);
        w.at("fights whose powers are halved without supply and over rivers,");
        RiverCampaign z = Play.units(0, 8, 28, 1, 8, 29);
        w.due("supplied", z.would(0, 29, 0), 16);
        z.base(0, 62);
        w.due("without supply", z.would(0, 29, 0), 8);
        z.river(28, 0, true);
        w.due("over a river", z.would(0, 29, 0), 4);
    }

    private static void theRest(Walk w) {
        w.at("forts that double and change hands,");
        RiverCampaign x = Play.units(0, 8, 28, 1, 8, 29);
        w.due("without one", x.would(0, 29, 1), 16);
        x.fort(29, 0);
        w.due("doubled", x.would(0, 29, 1), 32);
        w.due("changed hands", x.hex(29, 2), 1);
        w.at("units that starve,");
        RiverCampaign y = Play.units(0, 8, 54);
        Play.endTurns(y, 4);
        w.due("with supply", y.unit(0, 1), 8);
        y.base(0, 8);
        Play.endTurns(y, 4);
        w.due("two turns without supply", y.unit(0, 1), 7);
        w.at("sieges,");
        x.fort(0, 0);
        x.place(1, 5, 10);
        w.due("both hexes beside it are in the zone", x.besieged(0), 1);
        w.at("what a unit could reach,");
        w.due("from the corner", Play.units(0, 5, 0).unit(0, 8), 18);
        w.at("what a fight would bring,");
        w.due("to the one that attacks", x.would(0, 29, 2), 3);
        w.due("to the other", x.would(0, 29, 3), 8);
        w.at("orders that are read from a text with the places of faults,");
        w.due("two orders", Play.perform(x, ".;."), 2);
        w.due("a fault at 2", Play.perform(x, ".;?"), -102);
        w.at("undo and a snapshot.");
        w.due("keep", x.keep(), 2);
        w.due("undo", x.undo(), 3);
        w.due("turns", x.count(0), 0);
        w.due("restore", x.restore(), 2);
    }

    private static void theCalls(Walk w) {
        w.at("An object is used for at most 512 calls after it has been made;");
        RiverCampaign x = new RiverCampaign();
        for (int call = 1; call < 512; call++) {
            int got = call % 2 == 1 ? x.ground(call % 63, 1) : x.undo();
            w.due("call " + call, got, 0);
        }
        w.due("call 512", x.count(12), 1);
        w.over("what later calls answer is free.");
    }

    private static void face(Walk w) {
        w.over("## The public face ```java");
        w.at("public final class RiverCampaign {");
        int modifiers = RiverCampaign.class.getModifiers();
        w.due("modifiers", modifiers & ~Modifier.SYNCHRONIZED, Modifier.PUBLIC | Modifier.FINAL);
        w.is("no class above it", RiverCampaign.class.getSuperclass() == Object.class);
        w.is("no interface", RiverCampaign.class.getInterfaces().length == 0);
        constant(w, "UNKNOWN", -1);
        constant(w, "BAD_VALUE", -2);
        constant(w, "FULL", -3);
        constant(w, "NOT_POSSIBLE", -4);
        constant(w, "NONE", -5);
        w.at("public RiverCampaign();");
        Constructor<?>[] constructors = RiverCampaign.class.getDeclaredConstructors();
        w.due("constructors", constructors.length, 1);
        w.due("its parameters", constructors[0].getParameterCount(), 0);
        w.is("it is public", Modifier.isPublic(constructors[0].getModifiers()));
        for (String method : METHODS) {
            w.at("public " + method + ";");
            method(w, method);
        }
        w.at("}");
        nothingElse(w);
        w.over("```");
    }

    private static void constant(Walk w, String name, int value) {
        w.at("public static final int " + name + " = " + value + ";");
        try {
            Field field = RiverCampaign.class.getField(name);
            w.due("modifiers", field.getModifiers(), Modifier.PUBLIC | Modifier.STATIC | Modifier.FINAL);
            w.is("an int", field.getType() == int.class);
            w.due("value", field.getInt(null), value);
        } catch (ReflectiveOperationException e) {
            w.is("is there: " + e, false);
        }
    }

    /** The class has the method as the document writes it. */
    static void method(Walk w, String words) {
        String name = words.substring(words.indexOf(' ') + 1, words.indexOf('('));
        String parameters = words.substring(words.indexOf('(') + 1, words.indexOf(')'));
        Class<?>[] types = Arrays.stream(parameters.split(", ")).filter(p -> !p.isEmpty())
            .map(FaceSentences::type).toArray(Class<?>[]::new);
        try {
            Method method = RiverCampaign.class.getMethod(name, types);
            w.due("modifiers", method.getModifiers(), Modifier.PUBLIC);
            w.is("returns an int", method.getReturnType() == int.class);
            w.due("exceptions", method.getExceptionTypes().length, 0);
        } catch (ReflectiveOperationException e) {
            w.is("is there: " + e, false);
        }
    }

    private static Class<?> type(String parameter) {
        switch (parameter.split(" ")[0]) {
            case "int": return int.class;
            case "char": return char.class;
            case "boolean": return boolean.class;
            default: return Object.class;
        }
    }

    private static void nothingElse(Walk w) {
        for (Method method : RiverCampaign.class.getDeclaredMethods()) {
            int modifiers = method.getModifiers();
            boolean ofTheFace = Arrays.stream(METHODS).anyMatch(m -> m.contains(" " + method.getName() + "("));
            w.is("public or private: " + method, ofTheFace ? Modifier.isPublic(modifiers)
                : Modifier.isPrivate(modifiers));
        }
        for (Field field : RiverCampaign.class.getDeclaredFields()) {
            int modifiers = field.getModifiers();
            w.is("private, or a constant: " + field, Modifier.isPrivate(modifiers) || Modifier.isPublic(modifiers)
                && Modifier.isStatic(modifiers) && Modifier.isFinal(modifiers));
        }
        w.due("public fields", RiverCampaign.class.getFields().length, 5);
        w.due("public methods", Arrays.stream(RiverCampaign.class.getDeclaredMethods())
            .filter(m -> Modifier.isPublic(m.getModifiers())).count(), METHODS.length);
    }
}
