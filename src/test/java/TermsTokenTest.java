/** The document's terms, fifth part: hops that pass, frames that pass, and a token that arrives. */
public final class TermsTokenTest {
    private static final Due due = new Due();

    public static void main(String[] args) {
        arrivalIsAllOfTheTick();
        thtOfAsynchronousFrames();
        thtOfSynchronousFrames();
        frameIsDoneWhenNoneIsLeft();
        nextFrameBeginsInTheSameTick();
        tokenLeavesInTheSameTick();
        heardIsTheStationBefore();
        heardIsItselfIfAlone();
        rotationAndSince();
        rotationIsReckonedInFloats();
        arrivalInTimeOrLate();
        greatestTht();
        allowedIsTheAllotment();
        due.end();
    }

    private static void arrivalIsAllOfTheTick() {
        due.sentence("when none is left, it ARRIVES at the next station (that is all of this tick)");
        for (int priority = 2; priority <= 3; priority++) {
            DualRing x = Scenes.wrapped(3);
            x.allot(0, 5);
            x.send(0, 1, 2, priority);
            x.tick(6 + 2);
            due.is("state(0): one tick of the hop is left", x.state(0), 2);
            due.is("station(0, 3)", x.station(0, 3), 0);
            x.tick(1);
            due.is("state(0): it arrives, and nothing begins", x.state(0), 3);
            due.is("station(0, 3)", x.station(0, 3), 5);
            x.tick(1);
            due.is("state(0): it begins", x.state(0), 4);
            due.is("station(0, 3)", x.station(0, 3), priority == 3 ? 3 : 5);
            x.tick(1);
            due.is("state(0)", x.state(0), 4);
            x.tick(1);
            due.is("state(0)", x.state(0), 2);
        }
        DualRing idle = Scenes.lone(20);
        idle.tick(3);
        due.is("state(0): it arrives, and does not leave", idle.state(0), 3);
        idle.tick(1);
        due.is("state(0): it leaves", idle.state(0), 2);
    }

    private static void thtOfAsynchronousFrames() {
        due.sentence("THT, if it is above 0 and the frame is asynchronous, becomes less by 1");
        DualRing x = Scenes.lone(5);
        x.send(0, 1, 8, 0);
        x.tick(3);
        int[] tht = {4, 3, 2, 1, 0, 0, 0, 0, 0};
        for (int i = 0; i < tht.length; i++) {
            x.tick(1);
            due.is("station(0, 2) after " + (4 + i), x.station(0, 2), tht[i]);
            due.is("station(0, 10) after " + (4 + i), x.station(0, 10), i < 8 ? 0 : 8);
        }
    }

    private static void thtOfSynchronousFrames() {
        due.sentence("and the frame is asynchronous, becomes less by 1");
        DualRing x = Scenes.lone(20);
        x.allot(0, 20);
        x.send(0, 1, 6, 3);
        x.send(0, 1, 2, 2);
        x.tick(4);
        for (int i = 0; i <= 6; i++) {
            due.is("station(0, 2) after " + (4 + i), x.station(0, 2), 19);
            x.tick(1);
        }
        due.is("station(0, 2): the asynchronous one", x.station(0, 2), 18);
        x.tick(1);
        due.is("station(0, 2)", x.station(0, 2), 17);
    }

    private static void frameIsDoneWhenNoneIsLeft() {
        due.sentence("one tick of it passes ... when none is left, the frame is DONE");
        for (int priority = 2; priority <= 3; priority++) {
            for (int length = 1; length <= 10; length += 9) {
                DualRing x = Scenes.ringOf(2, 40);
                x.allot(0, 20);
                x.send(0, 1, length, priority);
                x.tick(5);
                for (int i = 0; i < length; i++) {
                    x.tick(1);
                    due.is(length + ": state(0) after " + (6 + i), x.state(0), 4);
                    due.is(length + ": station(0, 10) after " + (6 + i), x.station(0, 10), 0);
                }
                x.tick(1);
                due.is(length + ": station(0, 10)", x.station(0, 10), length);
                due.is(length + ": station(1, 8)", x.station(1, 8), length);
                due.is(length + ": state(0)", x.state(0), 2);
            }
        }
    }

    private static void nextFrameBeginsInTheSameTick() {
        due.sentence("(behind a frame that was just done, too, in the same tick): the station begins the next frame");
        int[][] priorities = {{3, 3}, {3, 2}, {2, 2}};
        for (int[] of : priorities) {
            String name = of[0] + " and " + of[1] + ": ";
            DualRing x = Scenes.ringOf(2, 40);
            x.allot(0, 9);
            x.send(0, 1, 2, of[0]);
            x.send(0, 1, 3, of[1]);
            x.tick(8);
            due.is(name + "station(1, 8)", x.station(1, 8), 2);
            due.is(name + "state(0)", x.state(0), 4);
            x.tick(2);
            due.is(name + "station(1, 8) before", x.station(1, 8), 2);
            x.tick(1);
            due.is(name + "station(1, 8)", x.station(1, 8), 5);
        }
    }

    private static void tokenLeavesInTheSameTick() {
        due.sentence("the station begins the next frame, if it may, or else the token LEAVES");
        DualRing x = Scenes.ringOf(2, 40);
        x.send(0, 1, 2, 2);
        x.tick(8);
        due.is("station(1, 8): done", x.station(1, 8), 2);
        due.is("state(0): the token has left", x.state(0), 2);
        x.tick(1);
        due.is("state(1): a hop of 1", x.state(1), 3);
        x.send(0, 1, 2, 2);
        x.send(1, 0, 1, 2);
        x.tick(1);
        due.is("state(1): a frame that came with the token there", x.state(1), 4);
    }

    private static void heardIsTheStationBefore() {
        due.sentence("HEARD is the number of the station before it in the ring");
        DualRing x = new DualRing(4);
        x.tick(8);
        for (int s = 0; s < 4; s++) {
            due.is("station(" + s + ", 6) before the token came", x.station(s, 6), -1);
            x.tick(1);
            due.is("station(" + s + ", 6)", x.station(s, 6), (s + 3) % 4);
            x.tick(1);
        }
        x.power(1, false);
        due.is("station(2, 6) while it claims", x.station(2, 6), 1);
        x.tick(6 + 1);
        due.is("station(0, 6): 3 wins in the row 2 3 0", x.station(0, 6), 3);
        due.is("station(2, 6)", x.station(2, 6), 1);
        x.tick(1 + 3);
        due.is("station(2, 6): the last one is before the first one", x.station(2, 6), 0);
        due.is("station(1, 6): it is off", x.station(1, 6), 0);
    }

    private static void heardIsItselfIfAlone() {
        due.sentence("the number of the station before it in the ring (itself, if it is alone)");
        for (int n = 2; n <= 6; n++) {
            DualRing x = new DualRing(n);
            for (int s = 0; s < n; s++) {
                x.cable(s, false);
            }
            x.tick(2);
            for (int s = 0; s < n; s++) {
                due.is(n + ": station(" + s + ", 6) before", x.station(s, 6), -1);
            }
            x.tick(1);
            for (int s = 0; s < n; s++) {
                due.is(n + ": station(" + s + ", 6)", x.station(s, 6), s);
            }
        }
    }

    private static void rotationAndSince() {
        due.sentence("its ROTATION becomes ROTATION + (x - ROTATION) * 0.25f, "
            + "x being SINCE as a float, and SINCE is 0");
        DualRing x = Scenes.lone(20);
        x.allot(0, 20);
        x.send(0, 1, 10, 3);
        x.tick(3);
        due.real("rotation(0): SINCE was 1", x.rotation(0), 0.25);
        x.tick(11);
        due.real("rotation(0) before the token arrives again", x.rotation(0), 0.25);
        x.tick(1);
        due.real("rotation(0): SINCE was 12", x.rotation(0), 3.1875);
        x.tick(2);
        due.real("rotation(0): SINCE was 2", x.rotation(0), 2.890625);
        float want = 2.890625f;
        for (int i = 0; i < 60; i++) {
            x.tick(2);
            want = want + (2.0f - want) * 0.25f;
            due.real("rotation(0) in round " + i, x.rotation(0), want);
        }
    }

    private static void rotationIsReckonedInFloats() {
        due.sentence("ROTATION + (x - ROTATION) * 0.25f, x being SINCE as a float");
        DualRing x = Scenes.lone(40);
        x.allot(0, 20);
        x.tick(3);
        float want = 0.25f;
        float rounded = want;
        // With these rounds x - ROTATION loses digits at last that a double would keep.
        for (int since : new int[] {8, 2, 2, 2, 2, 2, 2, 6, 2, 5, 13}) {
            if (since > 2) {
                sendFor(x, since - 2);
            }
            x.tick(since);
            rounded = (float) ((double) want + ((double) since - (double) want) * 0.25);
            want = want + ((float) since - want) * 0.25f;
            due.real("rotation(0) with SINCE " + since, x.rotation(0), want);
        }
        due.yes("a double would differ", rounded != want);
    }

    private static void arrivalInTimeOrLate() {
        due.sentence("if LATE is 0: THT is T - TRT and TRT is 0; else THT is 0 and LATE is 0");
        for (int t = 4; t <= 21; t++) {
            for (int since = t - 1; since <= t + 1; since++) {
                DualRing x = Scenes.lone(t);
                sendFor(x, since - 2);
                x.tick(3 + since - 1);
                due.is("T " + t + ", SINCE " + since + ": state(0) before", x.state(0), 2);
                due.is("T " + t + ", SINCE " + since + ": LATE before", x.station(0, 1), since <= t ? 0 : 1);
                x.tick(1);
                String want = since < t ? "0 0 1" : since == t ? "0 0 0" : "1 0 0";
                due.text("T " + t + ", SINCE " + since + ": TRT, LATE, THT", Scenes.told(x, 0, 0, 2), want);
                x.send(0, 1, 1, 2);
                x.tick(1);
                // With a THT of 1 the threshold is met only while a quarter of T is below 2.
                int state = since < t && t < 8 ? 4 : 2;
                due.is("T " + t + ", SINCE " + since + ": an asynchronous frame", x.state(0), state);
            }
        }
    }

    /** Station 0 sends synchronous frames for so many ticks (at most 20) when the token comes. */
    private static void sendFor(DualRing x, int ticks) {
        x.allot(0, 20);
        if (ticks > 10) {
            x.send(0, 1, 10, 3);
            x.send(0, 1, ticks - 10, 3);
        } else {
            x.send(0, 1, ticks, 3);
        }
    }

    private static void greatestTht() {
        due.sentence("THT is T - TRT");
        for (int t = 4; t <= 60; t++) {
            DualRing x = Scenes.lone(t);
            x.tick(3);
            due.is("T " + t + ": THT one tick since it operates", x.station(0, 2), t - 1);
            x.tick(2);
            due.is("T " + t + ": THT after a round of 2", x.station(0, 2), t - 2);
        }
    }

    private static void allowedIsTheAllotment() {
        due.sentence("ALLOWED is its allotment");
        DualRing x = Scenes.lone(40);
        x.allot(0, 6);
        x.send(0, 1, 2, 3);
        x.tick(4);
        due.is("station(0, 3): 2 of 6 are taken", x.station(0, 3), 4);
        x.tick(2);
        due.is("station(0, 3): the token is away", x.station(0, 3), 4);
        x.tick(1);
        due.is("station(0, 3): 6, and not 4 more", x.station(0, 3), 6);
        x.allot(0, 0);
        x.tick(1);
        due.is("station(0, 3)", x.station(0, 3), 6);
        x.tick(1);
        due.is("station(0, 3): when it arrives next", x.station(0, 3), 0);
        x.allot(0, 20);
        x.tick(2);
        due.is("station(0, 3)", x.station(0, 3), 20);
    }
}
