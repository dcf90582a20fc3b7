/** Promise 8: the first station of each station's ring. */
public final class Promise08RingTest {
    private static final Due due = new Due();

    public static void main(String[] args) {
        noStationHasNoRing();
        everyWayToBreakTheRing();
        due.end();
    }

    private static void noStationHasNoRing() {
        DualRing x = new DualRing(5);
        int[] none = {-1, 5, 6, Integer.MIN_VALUE, Integer.MAX_VALUE};
        for (int s : none) {
            due.is("ring(" + s + ")", x.ring(s), -1);
        }
    }

    /** For each size, each set of cables that are cut and each set of stations that are off. */
    private static void everyWayToBreakTheRing() {
        for (int n = 2; n <= 6; n++) {
            for (int cut = 0; cut < 1 << n; cut++) {
                for (int off = 0; off < 1 << n; off++) {
                    DualRing x = new DualRing(n);
                    for (int s = 0; s < n; s++) {
                        if ((cut >> s & 1) == 1) {
                            x.cable(s, false);
                        }
                        if ((off >> s & 1) == 1) {
                            x.power(s, false);
                        }
                    }
                    for (int s = 0; s < n; s++) {
                        String of = "n " + n + ", cut " + cut + ", off " + off + ": ring(" + s + ")";
                        due.is(of, x.ring(s), firstOf(n, cut, off, s));
                    }
                }
            }
        }
    }

    private static int firstOf(int n, int cut, int off, int s) {
        if ((off >> s & 1) == 1) {
            return -1;
        }
        int first = s;
        for (int steps = 0; steps < n; steps++) {
            int before = (first + n - 1) % n;
            if ((cut >> before & 1) == 1 || (off >> before & 1) == 1) {
                return first;
            }
            first = before;
        }
        return 0;
    }
}
