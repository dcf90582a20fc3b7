/** The document's terms, sixth part: which frame a station may begin, and where a frame that is done goes. */
public final class TermsFrameTest {
    private static final Due due = new Due();

    public static void main(String[] args) {
        lengthIsAtMostAllowed();
        allowedBecomesLess();
        synchronousOneComesFirst();
        withoutASynchronousOne();
        synchronousOneThatMayNot();
        thresholdOfEachPriority();
        noAsynchronousOneWithoutTht();
        onlyTheFirstOfItsQueueMayBegin();
        noSynchronousOneBehindAnAsynchronousOne();
        otherStationsMayBeginSynchronousOnes();
        targetInTheRing();
        targetInAnotherRing();
        targetThatIsOff();
        targetThatIsInTheRingOnlyWhenItIsDone();
        targetOfALoneStation();
        due.end();
    }

    private static void lengthIsAtMostAllowed() {
        due.sentence("first the first synchronous frame, if its length is at most ALLOWED");
        for (int length = 1; length <= 10; length++) {
            for (int a = length - 1; a <= length + 1; a++) {
                DualRing x = Scenes.lone(40);
                x.allot(0, a);
                x.send(0, 1, length, 3);
                x.tick(4);
                due.is("length " + length + ", allowed " + a, x.state(0), a >= length ? 4 : 2);
                due.is("length " + length + ", allowed " + a + ": queue", x.station(0, 4), 1);
                int left = a >= length ? a - length : a;
                due.is("length " + length + ", allowed " + a + ": left", x.station(0, 3), left);
            }
        }
    }

    private static void allowedBecomesLess() {
        due.sentence("if its length is at most ALLOWED (which becomes less by that)");
        for (int a = 8; a <= 10; a++) {
            DualRing x = Scenes.lone(40);
            x.allot(0, a);
            x.send(0, 1, 3, 3);
            x.send(0, 1, 2, 3);
            x.send(0, 1, 4, 3);
            x.tick(4);
            due.is(a + ": station(0, 3)", x.station(0, 3), a - 3);
            x.tick(2);
            due.is(a + ": station(0, 3) stays while it is sent", x.station(0, 3), a - 3);
            x.tick(1);
            due.is(a + ": station(0, 3)", x.station(0, 3), a - 5);
            x.tick(2);
            due.is(a + ": state(0), the third has 4", x.state(0), a < 9 ? 2 : 4);
            due.is(a + ": station(0, 3)", x.station(0, 3), a < 9 ? 3 : a - 9);
        }
    }

    private static void synchronousOneComesFirst() {
        due.sentence("A station MAY begin: first the first synchronous frame");
        DualRing x = Scenes.ringOf(3, 40);
        x.allot(0, 20);
        x.send(0, 1, 2, 2);
        x.send(0, 2, 3, 3);
        x.send(0, 2, 4, 3);
        x.tick(8 + 3);
        due.is("station(2, 8)", x.station(2, 8), 3);
        x.tick(4);
        due.is("station(2, 8)", x.station(2, 8), 7);
        due.is("station(1, 8): last of all", x.station(1, 8), 0);
        x.tick(2);
        due.is("station(1, 8)", x.station(1, 8), 2);
    }

    private static void withoutASynchronousOne() {
        due.sentence("if it has none, or may not, the first asynchronous frame");
        DualRing x = Scenes.lone(40);
        x.allot(0, 20);
        x.send(0, 1, 2, 2);
        x.tick(4);
        due.is("state(0): it has none", x.state(0), 4);
        due.is("station(0, 3)", x.station(0, 3), 20);
        DualRing y = Scenes.lone(40);
        y.allot(0, 20);
        y.tick(4);
        due.is("state(0): it has neither", y.state(0), 2);
    }

    private static void synchronousOneThatMayNot() {
        due.sentence("if it has none, or may not, the first asynchronous frame");
        for (int a = 2; a <= 3; a++) {
            DualRing x = Scenes.ringOf(3, 40);
            x.allot(0, a);
            x.send(0, 1, 3, 3);
            x.send(0, 2, 5, 2);
            x.tick(8);
            due.is(a + ": state(0)", x.state(0), 4);
            due.is(a + ": station(0, 3)", x.station(0, 3), a == 2 ? 2 : 0);
            x.tick(3);
            due.is(a + ": station(1, 8)", x.station(1, 8), a == 2 ? 0 : 3);
            x.tick(2);
            due.is(a + ": station(2, 8)", x.station(2, 8), a == 2 ? 5 : 0);
        }
    }

    private static void thresholdOfEachPriority() {
        due.sentence("if THT is above 0 and at least the THRESHOLD of its priority: "
            + "(3 - priority) * T / 4, rounded down");
        int[] quarters = {3, 2, 1};
        for (int t = 4; t <= 60; t++) {
            for (int priority = 0; priority <= 2; priority++) {
                int threshold = (int) Math.floor(quarters[priority] * (t / 4.0));
                String of = "T " + t + ", priority " + priority + ", THT ";
                due.is(of + threshold, stateWithTht(t, threshold, priority), 4);
                due.is(of + (threshold - 1), stateWithTht(t, threshold - 1, priority), 2);
            }
        }
    }

    /** A lone station has sent until its THT was this one; its state when the frame comes first. */
    private static int stateWithTht(int t, int tht, int priority) {
        DualRing x = Scenes.lone(t);
        // At its first visit the token comes one tick after the ring operates, and THT is T - 1.
        int ticks = t - 1 - tht;
        int frames = 0;
        for (int left = ticks; left > 0; left -= 10) {
            x.send(0, 1, Math.min(10, left), 2);
            frames++;
        }
        x.tick(3);
        if (frames == 5) {
            // The queue is full: there is room for the frame when the first one is done.
            x.tick(11);
            ticks -= 11;
        }
        due.yes("the frame is taken", x.send(0, 1, 1, priority));
        x.tick(1 + ticks);
        due.is("T " + t + ": THT when the frame comes first", x.station(0, 2), tht);
        return x.state(0);
    }

    private static void noAsynchronousOneWithoutTht() {
        due.sentence("if THT is above 0");
        // The frame of 5 ticks makes the station late once, so that its THT is 0 when the token comes again.
        DualRing x = Scenes.lone(4);
        x.allot(0, 5);
        x.send(0, 1, 5, 3);
        x.send(0, 1, 1, 2);
        x.tick(9);
        due.is("station(0, 2): 3 are left of its first visit", x.station(0, 2), 3);
        due.is("state(0): so that it begins", x.state(0), 4);
        DualRing y = Scenes.lone(4);
        y.allot(0, 5);
        y.send(0, 1, 5, 3);
        y.tick(10);
        due.is("state(0)", y.state(0), 3);
        due.is("station(0, 2)", y.station(0, 2), 0);
        y.send(0, 1, 1, 2);
        y.send(0, 1, 1, 0);
        y.tick(1);
        due.is("state(0): no time is left", y.state(0), 2);
        due.is("station(0, 5)", y.station(0, 5), 2);
        DualRing z = Scenes.lone(4);
        z.send(0, 1, 3, 2);
        z.send(0, 1, 1, 2);
        z.tick(7);
        due.is("station(0, 2): it was used up", z.station(0, 2), 0);
        due.is("station(0, 10)", z.station(0, 10), 3);
        due.is("state(0)", z.state(0), 2);
    }

    private static void onlyTheFirstOfItsQueueMayBegin() {
        due.sentence("the first synchronous frame ... the first asynchronous frame");
        DualRing x = Scenes.lone(20);
        x.allot(0, 3);
        x.send(0, 1, 4, 3);
        x.send(0, 1, 1, 3);
        x.tick(4);
        due.is("state(0): the second is short enough, the first is not", x.state(0), 2);
        x.tick(20);
        due.is("station(0, 4)", x.station(0, 4), 2);
        DualRing y = Scenes.lone(20);
        y.send(0, 1, 5, 2);
        y.send(0, 1, 1, 0);
        y.send(0, 1, 1, 2);
        // THT is 19 and then 14: too little for priority 0 (15), enough for priority 2 (5).
        y.tick(9);
        due.is("state(0): the frame behind has the higher priority", y.state(0), 2);
        due.is("station(0, 5)", y.station(0, 5), 2);
    }

    private static void noSynchronousOneBehindAnAsynchronousOne() {
        due.sentence("Once it has begun an asynchronous frame, "
            + "it begins no synchronous one before the token arrives again.");
        DualRing x = Scenes.ringOf(3, 40);
        x.allot(0, 20);
        x.tick(7);
        x.send(0, 1, 2, 2);
        x.tick(1);
        x.send(0, 2, 1, 3);
        x.tick(1);
        due.is("state(0)", x.state(0), 4);
        x.tick(1);
        due.is("station(1, 8)", x.station(1, 8), 2);
        due.is("state(0): it leaves, though a synchronous frame is due", x.state(0), 2);
        due.is("station(0, 4)", x.station(0, 4), 1);
        due.is("station(0, 3)", x.station(0, 3), 20);
        due.text("path", Scenes.path(x, "012", 7), "1-2-00-");
        due.is("station(2, 8): it went when the token came again", x.station(2, 8), 1);

        DualRing y = Scenes.ringOf(3, 40);
        y.allot(0, 20);
        y.tick(7);
        y.send(0, 2, 2, 3);
        y.tick(1);
        y.send(0, 2, 1, 3);
        y.tick(2);
        due.is("state(0): behind a synchronous one it begins", y.state(0), 4);
        due.is("station(0, 3)", y.station(0, 3), 17);
    }

    private static void otherStationsMayBeginSynchronousOnes() {
        due.sentence("Once it has begun an asynchronous frame, it begins no synchronous one");
        DualRing x = Scenes.ringOf(2, 40);
        x.allot(1, 5);
        x.send(0, 1, 2, 2);
        x.send(1, 0, 3, 3);
        x.tick(8);
        due.is("station(1, 8)", x.station(1, 8), 2);
        x.tick(2);
        due.is("state(1): it is another station", x.state(1), 4);
        due.is("station(1, 3)", x.station(1, 3), 2);

        DualRing y = Scenes.ringOf(2, 40);
        y.allot(0, 5);
        y.send(0, 1, 5, 2);
        y.tick(7);
        y.send(0, 1, 3, 3);
        y.cable(0, false);
        // The row is 1 0: the claim takes 4 ticks, 1 wins, and the token is at 0 with the fifth.
        y.tick(6);
        due.is("state(0): the token has come again behind the claim", y.state(0), 4);
        due.is("station(0, 3)", y.station(0, 3), 2);
    }

    private static void targetInTheRing() {
        due.sentence("if the target is another station of the ring, "
            + "that has RECEIVED one frame and its length in ticks more, and LAST from this station");
        DualRing x = new DualRing(6);
        x.cable(2, false);
        x.cable(4, false);
        // Rows 5 0 1 2 and 3 4: frames from both ends of the first row.
        x.send(5, 2, 3, 2);
        x.send(2, 5, 4, 2);
        x.send(3, 4, 5, 2);
        x.tick(60);
        due.text("station 2", Scenes.told(x, 2, 7, 11), "1 3 5 4 0");
        due.text("station 5", Scenes.told(x, 5, 7, 11), "1 4 2 3 0");
        due.text("station 4", Scenes.told(x, 4, 7, 11), "1 5 3 0 0");
        due.text("station 3", Scenes.told(x, 3, 7, 11), "0 0 -1 5 0");
        x.send(0, 2, 1, 2);
        x.tick(40);
        due.text("station 2: one more", Scenes.told(x, 2, 7, 11), "2 4 0 4 0");
    }

    private static void targetInAnotherRing() {
        due.sentence("else it is LOST (counted at the sender). In both cases the sender has SENT its length more.");
        DualRing x = new DualRing(6);
        x.cable(2, false);
        x.cable(4, false);
        x.send(2, 3, 3, 2);
        x.send(5, 4, 2, 2);
        x.send(3, 2, 4, 2);
        x.send(4, 5, 1, 2);
        x.tick(60);
        due.text("station 2", Scenes.told(x, 2, 7, 11), "0 0 -1 3 1");
        due.text("station 3", Scenes.told(x, 3, 7, 11), "0 0 -1 4 1");
        due.text("station 4", Scenes.told(x, 4, 7, 11), "0 0 -1 1 1");
        due.text("station 5", Scenes.told(x, 5, 7, 11), "0 0 -1 2 1");
    }

    private static void targetThatIsOff() {
        due.sentence("if the target is another station of the ring ... else it is LOST (counted at the sender)");
        for (int priority = 2; priority <= 3; priority++) {
            DualRing x = new DualRing(3);
            x.power(1, false);
            x.allot(2, 9);
            x.send(2, 1, 4, priority);
            x.send(2, 0, 2, priority);
            // Row 2 0, and 2 wins: the token is at 0 with tick 5 and at 2 with tick 8.
            x.tick(12);
            due.text("station 2, tick 12", Scenes.told(x, 2, 10, 11), "0 0");
            x.tick(1);
            due.text("station 2, tick 13", Scenes.told(x, 2, 10, 11), "4 1");
            x.tick(2);
            due.text("station 2, tick 15", Scenes.told(x, 2, 10, 11), "6 1");
            due.text("station 0", Scenes.told(x, 0, 7, 11), "1 2 2 0 0");
            due.text("station 1", Scenes.told(x, 1, 7, 11), "0 0 -1 0 0");
        }
    }

    private static void targetThatIsInTheRingOnlyWhenItIsDone() {
        due.sentence("A frame that is done: if the target is another station of the ring");
        DualRing x = new DualRing(3);
        x.power(1, false);
        x.send(0, 1, 2, 2);
        x.send(0, 1, 1, 2);
        due.is("the target is off when the frames come: station(0, 5)", x.station(0, 5), 2);
        x.power(1, true);
        x.tick(20);
        due.text("station 1: it is in the ring when they are done", Scenes.told(x, 1, 7, 9), "2 3 0");
        due.is("station(0, 11)", x.station(0, 11), 0);
        x.send(0, 1, 2, 2);
        x.cable(0, false);
        x.cable(1, false);
        x.tick(20);
        due.text("station 1: it is not when the third is done", Scenes.told(x, 1, 7, 9), "2 3 0");
        due.is("station(0, 11)", x.station(0, 11), 1);
        due.is("station(0, 10)", x.station(0, 10), 5);
    }

    private static void targetOfALoneStation() {
        due.sentence("another station of the ring ... else it is LOST (counted at the sender)");
        DualRing x = new DualRing(4);
        for (int s = 0; s < 4; s++) {
            x.cable(s, false);
            x.send(s, (s + 1) % 4, s + 1, 2);
        }
        x.tick(30);
        for (int s = 0; s < 4; s++) {
            due.text("station " + s, Scenes.told(x, s, 7, 11), "0 0 -1 " + (s + 1) + " 1");
        }
    }
}
