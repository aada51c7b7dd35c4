import java.lang.management.ManagementFactory;
import java.util.Random;

/** Any arguments in any state, far more calls than are promised, and that no call makes an object. */
public final class RoomTest {
    private static final int[] NUMBERS = {Integer.MIN_VALUE, Integer.MIN_VALUE + 1, -1000, -64, -6, -5, -4, -3, -2, -1,
        0, 1, 2, 3, 4, 5, 6, 7, 8, 9, 10, 11, 12, 13, 14, 15, 16, 17, 26, 27, 28, 30, 31, 35, 61, 62, 63, 64, 1000,
        Integer.MAX_VALUE - 1, Integer.MAX_VALUE};
    private static final String SIGNS = "0123456789.;>!abci17\u0000\uffff";

    public static void main(String[] args) {
        Due due = new Due();
        Random random = new Random(1);
        RiverCampaign x = new RiverCampaign();
        long sum = 0;
        for (int call = 0; call < 300_000; call++) {
            sum += anyCall(x, random, call % 22);
        }
        due.due("still counts", x.count(16), RiverCampaign.BAD_VALUE);
        manyMakings(due);
        noObjects(due, random);
        System.out.println("sum of the answers " + sum);
        due.end();
    }

    private static int any(Random random) {
        return NUMBERS[random.nextInt(NUMBERS.length)];
    }

    private static int anyCall(RiverCampaign x, Random random, int method) {
        int a = any(random);
        int b = any(random);
        int c = any(random);
        switch (method) {
            case 0: return x.ground(a, b);
            case 1: return x.river(a, b, c > 3);
            case 2: return x.fort(a, b);
            case 3: return x.base(a, b);
            case 4: return x.place(a, b, c);
            case 5: return x.move(a, b);
            case 6: return x.attack(a, b);
            case 7: return x.endTurn();
            case 8: return x.perform();
            case 9: return x.type(SIGNS.charAt(random.nextInt(SIGNS.length())));
            case 10: return random.nextInt(8) == 0 ? x.clearText() : x.count(13);
            case 11: return x.undo();
            case 12: return random.nextInt(50) == 0 ? x.keep() : x.count(0);
            case 13: return random.nextInt(9) == 0 ? x.restore() : x.count(0);
            case 14: return x.hex(a, b);
            case 15: return x.beside(a, b);
            case 16: return x.distance(a, b);
            case 17: return x.unit(a, b);
            case 18: return x.cost(a, b);
            case 19: return x.would(a, b, c);
            case 20: return x.besieged(a);
            default: return x.count(a);
        }
    }

    /** Objects share nothing. */
    private static void manyMakings(Due due) {
        RiverCampaign x = new RiverCampaign();
        RiverCampaign y = new RiverCampaign();
        x.place(0, 5, 0);
        x.ground(0, 1);
        x.type('.');
        x.keep();
        due.due("units of the other object", y.count(2), 0);
        due.due("ground of the other object", y.hex(0, 0), 0);
        due.due("text of the other object", y.count(13), 0);
        due.due("history of the other object", y.count(12), 0);
        due.due("snapshot of the other object", y.restore(), RiverCampaign.NONE);
    }

    private static void noObjects(Due due, Random random) {
        com.sun.management.ThreadMXBean threads = (com.sun.management.ThreadMXBean) ManagementFactory.getThreadMXBean();
        RiverCampaign x = new RiverCampaign();
        threads.getCurrentThreadAllocatedBytes();
        long before = threads.getCurrentThreadAllocatedBytes();
        for (int call = 0; call < 22_000; call++) {
            anyCall(x, random, call % 22);
        }
        long bytes = threads.getCurrentThreadAllocatedBytes() - before;
        // The measuring itself makes a few; one object for each call of one method alone would be 16,000 bytes.
        System.out.println(bytes + " bytes made");
        due.due("bytes made by 22,000 calls, " + bytes + ", are under 8,000", bytes < 8_000 ? 1 : 0, 1);
    }
}
