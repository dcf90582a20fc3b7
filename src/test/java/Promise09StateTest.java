/** Promise 9: the states 0 to 4 of a station. */
public final class Promise09StateTest {
    private static final Due due = new Due();
    private static final DualRing x = new DualRing(3);

    public static void main(String[] args) {
        int[] none = {-1, 3, Integer.MIN_VALUE, Integer.MAX_VALUE};
        for (int s : none) {
            due.is("state(" + s + ")", x.state(s), 0);
        }
        closedRing();
        wrappedRings();
        due.end();
    }

    private static void closedRing() {
        x.send(1, 2, 2, 2);
        x.send(1, 2, 1, 2);
        now(1, 1, 1);
        inEachOf(5, 1, 1, 1);
        inEachOf(1, 2, 2, 2);
        inEachOf(1, 3, 2, 2);
        inEachOf(1, 2, 2, 2);
        inEachOf(1, 2, 3, 2);
        inEachOf(3, 2, 4, 2);
        inEachOf(1, 2, 2, 2);
        inEachOf(1, 2, 2, 3);
    }

    private static void wrappedRings() {
        x.power(2, false);
        now(1, 1, 0);
        inEachOf(3, 1, 1, 0);
        inEachOf(2, 2, 2, 0);
        inEachOf(1, 3, 2, 0);
        x.cable(0, false);
        now(1, 1, 0);
        inEachOf(1, 1, 1, 0);
        inEachOf(1, 2, 2, 0);
        inEachOf(1, 3, 3, 0);
        x.power(0, false);
        now(0, 3, 0);
    }

    private static void inEachOf(int ticks, int s0, int s1, int s2) {
        for (int i = 0; i < ticks; i++) {
            x.tick(1);
            now(s0, s1, s2);
        }
    }

    private static void now(int s0, int s1, int s2) {
        due.is("state(0)", x.state(0), s0);
        due.is("state(1)", x.state(1), s1);
        due.is("state(2)", x.state(2), s2);
    }
}
