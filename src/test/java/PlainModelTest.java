import java.util.ArrayDeque;
import java.util.Random;

/** Runs of mixed calls, each answer compared with the plain model's. */
public final class PlainModelTest {
    private static final int RUNS = 30000;

    /** An object is used for at most 512 calls; the last comparison of all its answers takes 153. */
    private static final int CALLS = 512 - 153;

    /** Kinds of runs: how many of 100 changes are of a cable or a station, and how many ticks go by at once. */
    private static final int[][] KINDS = {{1, 3}, {4, 12}, {15, 6}, {40, 30}, {0, 5}};

    private static final Due due = new Due();

    public static void main(String[] args) {
        int[] reached = new int[5];
        for (int run = 0; run < RUNS && due.allWell(); run++) {
            compareRun(run, reached);
        }
        for (int state = 0; state < reached.length; state++) {
            due.yes("state " + state + " was reached", reached[state] > 1000);
        }
        due.end();
    }

    private static void compareRun(int run, int[] reached) {
        Random random = new Random(run);
        int n = random.nextInt(20) == 0 ? random.nextInt(20) - 5 : 2 + random.nextInt(5);
        int[] kind = KINDS[run % KINDS.length];
        int shortest = random.nextInt(3) == 0 ? 4 : 10;
        int length = 1 + random.nextInt(CALLS);
        DualRing x = new DualRing(n);
        PlainModel y = new PlainModel(n);
        ArrayDeque<String> calls = new ArrayDeque<>();
        calls.add("new DualRing(" + n + ")");
        for (int i = 0; i < length && due.allWell(); i++) {
            if (random.nextInt(10) < 7) {
                calls.add(change(x, y, random, kind, shortest));
            } else {
                ask(x, y, random);
            }
        }
        compareAll(x, y, reached);
        if (!due.allWell()) {
            System.out.println("run " + run + ": " + calls);
        }
    }

    private static String change(DualRing x, PlainModel y, Random random, int[] kind, int shortest) {
        int choice = random.nextInt(100);
        int s = station(random);
        boolean on = random.nextInt(5) > 1;
        if (choice < kind[0]) {
            if (random.nextBoolean()) {
                return same("cable(" + s + ", " + on + ")", x.cable(s, on), y.cable(s, on));
            }
            return same("power(" + s + ", " + on + ")", x.power(s, on), y.power(s, on));
        }
        if (choice < 45) {
            int target = station(random);
            int length = random.nextInt(13) - 1;
            int priority = random.nextInt(30) == 0 ? 7 * random.nextInt(3) - 7 : random.nextInt(4);
            String call = "send(" + s + ", " + target + ", " + length + ", " + priority + ")";
            return same(call, x.send(s, target, length, priority), y.send(s, target, length, priority));
        }
        if (choice < 50) {
            int t = random.nextInt(10) == 0 ? random.nextInt(80) - 5 : shortest + random.nextInt(25);
            return same("bid(" + s + ", " + t + ")", x.bid(s, t), y.bid(s, t));
        }
        if (choice < 56) {
            int a = random.nextInt(25) - 2;
            return same("allot(" + s + ", " + a + ")", x.allot(s, a), y.allot(s, a));
        }
        int ticks = random.nextInt(40) == 0 ? random.nextInt(110) - 4 : 1 + random.nextInt(kind[1]);
        return same("tick(" + ticks + ")", x.tick(ticks), y.tick(ticks));
    }

    private static int station(Random random) {
        return random.nextInt(40) == 0 ? random.nextInt(12) - 3 : random.nextInt(6);
    }

    private static String same(String call, boolean got, boolean want) {
        due.is(call, got ? 1 : 0, want ? 1 : 0);
        return call;
    }

    private static void ask(DualRing x, PlainModel y, Random random) {
        int s = station(random);
        switch (random.nextInt(7)) {
            case 0 -> due.is("ring", x.ring(s), y.ring(s));
            case 1 -> due.is("state", x.state(s), y.state(s));
            case 2 -> due.is("operating", x.operating(s), y.operating(s));
            case 3 -> due.real("rotation", x.rotation(s), y.rotation(s));
            case 4 -> due.real("share", x.share(s), y.share(s));
            case 5 -> due.is("longest", x.longest(), y.longest());
            default -> {
                int what = random.nextInt(14) - 1;
                due.is("station", x.station(s, what), y.station(s, what));
            }
        }
    }

    private static void compareAll(DualRing x, PlainModel y, int[] reached) {
        for (int s = -1; s <= 6; s++) {
            for (int what = -1; what <= 12; what++) {
                due.is("station", x.station(s, what), y.station(s, what));
            }
            due.is("ring", x.ring(s), y.ring(s));
            due.is("state", x.state(s), y.state(s));
            due.is("operating", x.operating(s), y.operating(s));
            due.real("rotation", x.rotation(s), y.rotation(s));
            due.real("share", x.share(s), y.share(s));
            reached[y.state(s)]++;
        }
        due.is("longest", x.longest(), y.longest());
    }
}
