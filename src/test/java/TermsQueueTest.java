/** The document's terms, fourth part: queues with 5 frames, allotments, and what a frame may be. */
public final class TermsQueueTest {
    private static final Due due = new Due();

    public static void main(String[] args) {
        eachQueueHasAtMostFive();
        refusedFrameIsNotThere();
        frameBeingSentIsStillTheFirst();
        placeIsFreeWhenAFrameIsDone();
        placeIsFreeWhenAFrameIsLost();
        allotmentIsZeroAtFirst();
        allotmentOfTwenty();
        lengthsOneToTen();
        priorityThreeIsSynchronous();
        due.end();
    }

    private static void eachQueueHasAtMostFive() {
        due.sentence("a QUEUE of at most 5 SYNCHRONOUS frames and one of at most 5 ASYNCHRONOUS ones");
        for (int n = 2; n <= 6; n++) {
            DualRing x = new DualRing(n);
            for (int s = 0; s < n; s++) {
                int target = (s + 1) % n;
                for (int i = 1; i <= 5; i++) {
                    due.yes(s + ": synchronous frame " + i, x.send(s, target, i, 3));
                    due.is(s + ": station(s, 4)", x.station(s, 4), i);
                }
                due.no(s + ": a sixth synchronous frame", x.send(s, target, 1, 3));
                due.is(s + ": station(s, 4)", x.station(s, 4), 5);
                due.is(s + ": station(s, 5)", x.station(s, 5), 0);
                for (int i = 1; i <= 5; i++) {
                    due.yes(s + ": asynchronous frame " + i, x.send(s, target, i, i % 3));
                    due.is(s + ": station(s, 5)", x.station(s, 5), i);
                }
                for (int priority = 0; priority <= 3; priority++) {
                    due.no(s + ": a sixth frame, priority " + priority, x.send(s, target, 1, priority));
                }
                due.is(s + ": station(s, 4)", x.station(s, 4), 5);
                due.is(s + ": station(s, 5)", x.station(s, 5), 5);
            }
        }
        DualRing y = new DualRing(2);
        for (int i = 0; i < 6; i++) {
            due.is("asynchronous frame " + i, y.send(0, 1, 1, 0) ? 1 : 0, i < 5 ? 1 : 0);
        }
        due.yes("the synchronous queue is not full", y.send(0, 1, 1, 3));
    }

    private static void refusedFrameIsNotThere() {
        due.sentence("False, refused, if ... the queue has 5. ... A call that is refused changes nothing.");
        for (int priority = 2; priority <= 3; priority++) {
            DualRing x = new DualRing(3);
            x.allot(0, 20);
            for (int i = 0; i < 5; i++) {
                x.send(0, 1, 1, priority);
            }
            due.no("a sixth frame to 2", x.send(0, 2, 10, priority));
            x.tick(60);
            due.is("station(1, 8): all five came", x.station(1, 8), 5);
            due.is("station(2, 7): the sixth did not", x.station(2, 7), 0);
            due.is("station(0, 10)", x.station(0, 10), 5);
        }
    }

    private static void frameBeingSentIsStillTheFirst() {
        due.sentence("(A frame that is being sent is still the first of its queue.)");
        for (int priority = 2; priority <= 3; priority++) {
            int queue = priority == 3 ? 4 : 5;
            DualRing x = new DualRing(2);
            x.allot(0, 20);
            for (int i = 0; i < 5; i++) {
                x.send(0, 1, 3, priority);
            }
            x.tick(6);
            for (int ticks = 6; ticks < 9; ticks++) {
                due.is("state(0) after " + ticks, x.state(0), 4);
                due.is("queue after " + ticks, x.station(0, queue), 5);
                due.no("a sixth frame after " + ticks, x.send(0, 1, 1, priority));
                x.tick(1);
            }
            due.is("queue when it is done", x.station(0, queue), 4);
        }
    }

    private static void placeIsFreeWhenAFrameIsDone() {
        due.sentence("A frame of station s comes to the end of its queue ... or the queue has 5");
        DualRing x = new DualRing(3);
        for (int i = 0; i < 5; i++) {
            x.send(0, 1, 2, 2);
        }
        x.tick(9);
        due.no("a frame in the last tick of the first", x.send(0, 2, 1, 2));
        x.tick(1);
        due.yes("a frame behind it", x.send(0, 2, 1, 2));
        due.no("and no other", x.send(0, 2, 1, 2));
        x.tick(8);
        due.is("station(1, 7): it is the last one", x.station(1, 7), 5);
        due.is("station(2, 7): it is the last one", x.station(2, 7), 0);
        x.tick(1);
        due.is("station(2, 7)", x.station(2, 7), 1);
    }

    private static void placeIsFreeWhenAFrameIsLost() {
        due.sentence("taken out of its queue and is LOST ... or the queue has 5");
        for (int priority = 2; priority <= 3; priority++) {
            DualRing x = new DualRing(3);
            x.allot(0, 20);
            for (int i = 0; i < 5; i++) {
                x.send(0, 1, 2, priority);
            }
            x.tick(8);
            due.is("state(0)", x.state(0), 4);
            x.cable(1, false);
            due.yes("a frame in the place of the lost one", x.send(0, 2, 1, priority));
            due.no("and no other", x.send(0, 2, 1, priority));
            x.tick(60);
            due.is("station(1, 8)", x.station(1, 8), 8);
            due.is("station(2, 8)", x.station(2, 8), 1);
        }
    }

    private static void allotmentIsZeroAtFirst() {
        due.sentence("an ALLOTMENT (0 .. 20, at first 0)");
        DualRing x = new DualRing(2);
        x.send(0, 1, 1, 3);
        x.send(1, 0, 1, 3);
        x.allot(1, 1);
        x.tick(50);
        due.is("station(0, 4): no frame is as short as 0", x.station(0, 4), 1);
        due.is("station(0, 3)", x.station(0, 3), 0);
        due.is("station(1, 4): a frame of 1", x.station(1, 4), 0);
        x.allot(0, 1);
        x.tick(6);
        due.is("station(0, 4)", x.station(0, 4), 0);
        x.allot(0, 0);
        x.send(0, 1, 1, 3);
        x.tick(50);
        due.is("station(0, 4): 0 again", x.station(0, 4), 1);
    }

    private static void allotmentOfTwenty() {
        due.sentence("an ALLOTMENT (0 .. 20");
        for (int a = 19; a <= 20; a++) {
            DualRing x = Scenes.ringOf(2, 60);
            x.allot(0, a);
            x.send(0, 1, 10, 3);
            x.send(0, 1, 10, 3);
            x.send(0, 1, 1, 3);
            x.tick(6 + 10);
            due.is(a + ": state(0)", x.state(0), a == 20 ? 4 : 2);
            x.tick(10);
            due.is(a + ": station(1, 8) after one visit", x.station(1, 8), a == 20 ? 20 : 10);
            due.is(a + ": station(0, 3)", x.station(0, 3), a == 20 ? 0 : 9);
        }
    }

    private static void lengthsOneToTen() {
        due.sentence("A FRAME has a target, a length 1 .. 10 (ticks)");
        for (int length = 1; length <= 10; length++) {
            DualRing x = Scenes.ringOf(3, 60);
            due.yes("send(0, 1, " + length + ", 2)", x.send(0, 1, length, 2));
            x.tick(8);
            due.is(length + ": it begins", x.state(0), 4);
            if (length > 1) {
                x.tick(length - 1);
            }
            due.is(length + ": state(0) in its last tick", x.state(0), 4);
            due.is(length + ": station(1, 7) before", x.station(1, 7), 0);
            x.tick(1);
            due.is(length + ": station(1, 7)", x.station(1, 7), 1);
            due.is(length + ": station(1, 8)", x.station(1, 8), length);
            due.is(length + ": state(0)", x.state(0), 2);
        }
    }

    private static void priorityThreeIsSynchronous() {
        due.sentence("a PRIORITY 0 .. 3 (3 for synchronous ones)");
        for (int priority = 0; priority <= 3; priority++) {
            DualRing x = new DualRing(2);
            due.yes("send(1, 0, 1, " + priority + ")", x.send(1, 0, 1, priority));
            due.is(priority + ": station(1, 4)", x.station(1, 4), priority == 3 ? 1 : 0);
            due.is(priority + ": station(1, 5)", x.station(1, 5), priority == 3 ? 0 : 1);
            x.tick(40);
            due.is(priority + ": station(0, 7), with an allotment of 0", x.station(0, 7), priority == 3 ? 0 : 1);
        }
    }
}
