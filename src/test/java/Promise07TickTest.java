/** Promise 7: what happens in a tick: timers, hops, frames, and claiming anew. */
public final class Promise07TickTest {
    private static final Due due = new Due();

    public static void main(String[] args) {
        takesOneToAHundred();
        manyTicksAreOneTickManyTimes();
        tokenGoesRound();
        timersAtAnArrivalInTime();
        timersAtALateArrival();
        lateTwiceClaimsAnew();
        stationsBehindTheLateOneStandStill();
        claimComesBeforeTheFrameIsDone();
        operatingAnewResetsTheTimers();
        synchronousFramesTakeFromAllowed();
        blockedSynchronousFrameLetsAsynchronousOnesGo();
        noSynchronousFrameBehindAnAsynchronousOne();
        asynchronousFramesTakeFromTht();
        thresholdsOfThePriorities();
        due.end();
    }

    private static DualRing ringOf(int n, int t) {
        DualRing x = new DualRing(n);
        for (int s = 0; s < n; s++) {
            x.bid(s, t);
        }
        return x;
    }

    /** Station 0 of two is alone; its ring operates with T after 2 ticks, the token is there after 3. */
    private static DualRing lone(int t) {
        DualRing x = ringOf(2, t);
        x.power(1, false);
        return x;
    }

    private static void takesOneToAHundred() {
        DualRing x = new DualRing(2);
        int[] wrong = {0, -1, -100, 101, 1000, Integer.MIN_VALUE, Integer.MAX_VALUE};
        for (int n : wrong) {
            due.no("tick(" + n + ")", x.tick(n));
        }
        due.is("state(0): no tick has passed", x.state(0), 1);
        x.tick(3);
        due.is("state(0) after 3 ticks", x.state(0), 1);
        due.yes("tick(1)", x.tick(1));
        due.is("state(0) after 4 ticks", x.state(0), 2);
        due.yes("tick(100)", x.tick(100));
        due.yes("tick(99)", x.tick(99));
    }

    private static void manyTicksAreOneTickManyTimes() {
        DualRing x = ringOf(5, 15);
        DualRing y = ringOf(5, 15);
        for (DualRing z : new DualRing[] {x, y}) {
            z.cable(1, false);
            z.cable(4, false);
            z.allot(3, 9);
            for (int i = 0; i < 5; i++) {
                z.send(3, 4, 3 + i, 3);
                z.send(0, 1, 6, 2);
            }
        }
        x.tick(100);
        for (int i = 0; i < 100; i++) {
            y.tick(1);
        }
        for (int s = 0; s < 5; s++) {
            for (int what = 0; what < 12; what++) {
                due.is("station(" + s + ", " + what + ")", x.station(s, what), y.station(s, what));
            }
            due.is("state(" + s + ")", x.state(s), y.state(s));
            due.real("share(" + s + ")", x.share(s), y.share(s));
            due.real("rotation(" + s + ")", x.rotation(s), y.rotation(s));
        }
    }

    private static void tokenGoesRound() {
        DualRing x = new DualRing(3);
        x.tick(6);
        int[] at = {0, -1, 1, -1, 2, -1, 0, -1, 1};
        for (int i = 0; i < at.length; i++) {
            x.tick(1);
            for (int s = 0; s < 3; s++) {
                due.is("state(" + s + ") after " + (7 + i), x.state(s), s == at[i] ? 3 : 2);
            }
        }
        due.is("station(0, 6)", x.station(0, 6), 2);
        due.is("station(1, 6)", x.station(1, 6), 0);
        due.is("station(2, 6)", x.station(2, 6), 1);
    }

    private static void timersAtAnArrivalInTime() {
        DualRing x = ringOf(2, 16);
        x.tick(4);
        due.is("station(1, 0) when it operates", x.station(1, 0), 0);
        x.tick(2);
        due.is("station(1, 0) after 2 ticks", x.station(1, 0), 2);
        due.is("station(0, 0): 0 at the arrival, 1 since", x.station(0, 0), 1);
        due.is("station(0, 2): T - TRT", x.station(0, 2), 15);
        x.tick(1);
        due.is("station(1, 0) at the arrival", x.station(1, 0), 0);
        due.is("station(1, 2)", x.station(1, 2), 13);
        x.tick(2);
        due.is("station(0, 2)", x.station(0, 2), 12);
        due.is("station(0, 0)", x.station(0, 0), 0);
        due.is("station(0, 1)", x.station(0, 1), 0);
    }

    private static void timersAtALateArrival() {
        DualRing x = lone(4);
        x.allot(0, 5);
        x.send(0, 1, 5, 3);
        x.tick(7);
        due.is("station(0, 0): it was T", x.station(0, 0), 0);
        due.is("station(0, 1)", x.station(0, 1), 1);
        due.is("station(0, 2)", x.station(0, 2), 3);
        x.tick(2);
        due.is("station(0, 10): done", x.station(0, 10), 5);
        due.is("state(0): on the hop", x.state(0), 2);
        x.send(0, 1, 1, 2);
        x.tick(1);
        due.is("station(0, 0): it goes on", x.station(0, 0), 3);
        due.is("station(0, 1)", x.station(0, 1), 0);
        due.is("station(0, 2)", x.station(0, 2), 0);
        due.is("station(0, 3)", x.station(0, 3), 5);
        x.tick(1);
        due.is("station(0, 0): it was T again", x.station(0, 0), 0);
        due.is("station(0, 1)", x.station(0, 1), 1);
        due.is("state(0): there was no time for the frame", x.state(0), 2);
        due.is("station(0, 5)", x.station(0, 5), 1);
        x.tick(3);
        due.is("station(0, 2): in time again", x.station(0, 2), 1);
        due.is("station(0, 0)", x.station(0, 0), 0);
        x.tick(1);
        due.is("state(0)", x.state(0), 4);
    }

    private static void lateTwiceClaimsAnew() {
        DualRing x = lone(4);
        x.allot(0, 10);
        x.send(0, 1, 10, 3);
        x.tick(10);
        due.is("station(0, 1)", x.station(0, 1), 1);
        due.is("state(0)", x.state(0), 4);
        x.tick(1);
        due.is("station(0, 1)", x.station(0, 1), 2);
        due.is("station(0, 0)", x.station(0, 0), 0);
        due.is("state(0)", x.state(0), 1);
        due.is("operating(0)", x.operating(0), 0);
        due.is("station(0, 4): taken out", x.station(0, 4), 0);
        due.is("station(0, 11)", x.station(0, 11), 1);
        due.is("station(0, 10)", x.station(0, 10), 0);
        x.tick(1);
        due.is("state(0): 2 ticks behind this one", x.state(0), 1);
        due.is("station(0, 1) stays till it operates", x.station(0, 1), 2);
        due.is("station(0, 0) stands still", x.station(0, 0), 0);
        x.tick(1);
        due.is("state(0)", x.state(0), 2);
        due.is("station(0, 1)", x.station(0, 1), 0);
    }

    private static void stationsBehindTheLateOneStandStill() {
        DualRing x = new DualRing(3);
        x.bid(0, 4);
        x.allot(0, 10);
        x.send(0, 1, 10, 3);
        x.tick(14);
        due.is("station(0, 1)", x.station(0, 1), 1);
        due.is("station(1, 0)", x.station(1, 0), 3);
        due.is("station(2, 0)", x.station(2, 0), 1);
        x.tick(1);
        due.is("station(1, 1)", x.station(1, 1), 2);
        due.is("station(0, 0): before it in the row", x.station(0, 0), 1);
        due.is("station(2, 0): behind it in the row", x.station(2, 0), 1);
        due.is("state(2)", x.state(2), 1);
        x.tick(5);
        due.is("state(2): it claims 6 ticks behind this one", x.state(2), 1);
        x.tick(1);
        due.is("state(2)", x.state(2), 2);
    }

    private static void claimComesBeforeTheFrameIsDone() {
        for (int length = 5; length <= 7; length++) {
            DualRing x = lone(4);
            x.allot(0, 20);
            x.send(0, 1, length, 3);
            x.tick(11);
            String of = " with a frame of " + length;
            due.is("state(0)" + of, x.state(0), length == 5 ? 2 : 1);
            due.is("station(0, 10)" + of, x.station(0, 10), length == 7 ? 0 : length);
            due.is("station(0, 11)" + of, x.station(0, 11), 1);
            due.is("station(0, 4)" + of, x.station(0, 4), 0);
            due.is("station(0, 1)" + of, x.station(0, 1), length == 5 ? 1 : 2);
        }
    }

    private static void operatingAnewResetsTheTimers() {
        DualRing x = ringOf(2, 10);
        x.allot(0, 9);
        x.tick(8);
        due.is("station(0, 2)", x.station(0, 2), 9);
        due.is("station(0, 3)", x.station(0, 3), 9);
        due.is("station(0, 0)", x.station(0, 0), 3);
        x.cable(0, false);
        x.tick(3);
        due.is("station(0, 2) while it claims", x.station(0, 2), 9);
        due.is("station(0, 3) while it claims", x.station(0, 3), 9);
        due.is("station(0, 0) while it claims", x.station(0, 0), 3);
        x.tick(1);
        due.is("station(0, 2)", x.station(0, 2), 0);
        due.is("station(0, 3)", x.station(0, 3), 0);
        due.is("station(0, 0)", x.station(0, 0), 0);
    }

    private static void synchronousFramesTakeFromAllowed() {
        DualRing x = ringOf(2, 40);
        x.allot(0, 6);
        x.send(0, 1, 3, 3);
        x.send(0, 1, 3, 3);
        x.send(0, 1, 1, 3);
        x.tick(5);
        due.is("station(0, 3)", x.station(0, 3), 6);
        x.tick(1);
        due.is("station(0, 3) when the first has begun", x.station(0, 3), 3);
        x.tick(2);
        due.is("station(1, 7)", x.station(1, 7), 0);
        x.tick(1);
        due.is("station(1, 7)", x.station(1, 7), 1);
        due.is("state(0): the second begins in the same tick", x.state(0), 4);
        due.is("station(0, 3)", x.station(0, 3), 0);
        due.is("station(0, 2): synchronous frames leave it", x.station(0, 2), 39);
        x.tick(3);
        due.is("station(1, 8)", x.station(1, 8), 6);
        due.is("state(0): it leaves in the same tick", x.state(0), 2);
        due.is("station(0, 4): one more than allowed", x.station(0, 4), 1);
        x.tick(1);
        due.is("state(1)", x.state(1), 3);
        x.tick(4);
        due.is("station(1, 8): with the next arrival it goes", x.station(1, 8), 7);
    }

    private static void blockedSynchronousFrameLetsAsynchronousOnesGo() {
        DualRing x = ringOf(2, 40);
        x.allot(0, 3);
        x.send(0, 1, 4, 3);
        x.send(0, 1, 1, 3);
        x.send(0, 1, 2, 1);
        x.tick(6);
        due.is("state(0)", x.state(0), 4);
        due.is("station(0, 3): no synchronous one has begun", x.station(0, 3), 3);
        x.tick(2);
        due.is("station(0, 5)", x.station(0, 5), 0);
        due.is("station(0, 4): the second waits behind the first", x.station(0, 4), 2);
        due.is("state(0)", x.state(0), 2);

        DualRing y = ringOf(2, 40);
        y.allot(0, 3);
        y.send(0, 1, 2, 2);
        y.send(0, 1, 3, 3);
        y.tick(6);
        due.is("station(0, 3): the synchronous one comes first", y.station(0, 3), 0);
        y.tick(3);
        due.is("station(0, 4)", y.station(0, 4), 0);
        due.is("state(0): then the asynchronous one", y.state(0), 4);
        y.tick(2);
        due.is("station(1, 8)", y.station(1, 8), 5);
    }

    private static void noSynchronousFrameBehindAnAsynchronousOne() {
        DualRing x = ringOf(2, 40);
        x.allot(0, 10);
        x.send(0, 1, 3, 2);
        x.tick(7);
        x.send(0, 1, 2, 3);
        x.send(0, 1, 4, 2);
        x.tick(2);
        due.is("station(0, 5): the next asynchronous one", x.station(0, 5), 1);
        due.is("state(0)", x.state(0), 4);
        due.is("station(0, 3)", x.station(0, 3), 10);
        x.tick(4);
        due.is("state(0): the synchronous one has to wait", x.state(0), 2);
        due.is("station(0, 4)", x.station(0, 4), 1);
        x.tick(4);
        due.is("state(0): it begins when the token came again", x.state(0), 4);
        due.is("station(0, 3)", x.station(0, 3), 8);
        x.tick(2);
        due.is("station(0, 4)", x.station(0, 4), 0);
    }

    private static void asynchronousFramesTakeFromTht() {
        DualRing x = lone(4);
        x.send(0, 1, 10, 2);
        int[] tht = {3, 3, 2, 1, 0, 0, 0};
        x.tick(2);
        for (int i = 0; i < tht.length; i++) {
            x.tick(1);
            due.is("station(0, 2) after " + (3 + i), x.station(0, 2), tht[i]);
            due.is("state(0) after " + (3 + i), x.state(0), i == 0 ? 3 : 4);
        }
    }

    private static void thresholdsOfThePriorities() {
        // T is 10, so the thresholds are 7, 5 and 2; at the first arrival THT is 9.
        int[][] priorities = {{0, 0, 0}, {2, 0}, {0, 0, 1, 1}, {2, 2, 2}, {2, 1, 1}};
        int[][] lengths = {{1, 1, 1}, {3, 1}, {2, 2, 1, 1}, {7, 1, 1}, {4, 1, 1}};
        int[] left = {0, 1, 1, 1, 1};
        int[] tht = {6, 6, 4, 1, 4};
        for (int row = 0; row < priorities.length; row++) {
            DualRing x = lone(10);
            int sum = 0;
            for (int i = 0; i < priorities[row].length; i++) {
                x.send(0, 1, lengths[row][i], priorities[row][i]);
                sum += lengths[row][i];
            }
            int sent = left[row] == 0 ? sum : sum - 1;
            x.tick(4 + sent);
            due.is("row " + row + ": station(0, 5)", x.station(0, 5), left[row]);
            due.is("row " + row + ": station(0, 2)", x.station(0, 2), tht[row]);
            due.is("row " + row + ": station(0, 10)", x.station(0, 10), sent);
            due.is("row " + row + ": state(0)", x.state(0), 2);
        }
    }
}
