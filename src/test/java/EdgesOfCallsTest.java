/** Promises 1 to 7: the boundaries that they name, just inside and just outside. */
public final class EdgesOfCallsTest {
    private static final int MIN = Integer.MIN_VALUE;
    private static final int MAX = Integer.MAX_VALUE;
    private static final Due due = new Due();

    public static void main(String[] args) {
        twoToSixStations();
        ringOfAllStationsClaims();
        bidOfNoStation();
        bidOfFourToSixty();
        bidCountsWhenTheRingClaimsNext();
        allotmentOfNoStation();
        allotmentOfZeroToTwenty();
        allotmentCountsWhenTheTokenArrivesNext();
        frameOfNoStation();
        frameToItself();
        frameOfOneToTen();
        frameOfPriorityZeroToThree();
        frameOfAStationThatIsOff();
        cableThatIsNone();
        cableThatIsSo();
        powerOfNoStation();
        powerThatIsSo();
        queuesBecomeEmptyWhenItGoesOff();
        frameBeingSentIsLostWhenItGoesOff();
        countsStayWhenItGoesOff();
        oneToAHundredTicks();
        due.end();
    }

    private static void twoToSixStations() {
        due.sentence("N is n if that is 2 .. 6, else 4.");
        int[] asked = {MIN, -4, -1, 0, 1, 2, 3, 4, 5, 6, 7, 8, 60, MAX};
        int[] given = {4, 4, 4, 4, 4, 2, 3, 4, 5, 6, 4, 4, 4, 4};
        for (int i = 0; i < asked.length; i++) {
            DualRing x = new DualRing(asked[i]);
            for (int s = 0; s <= 8; s++) {
                String of = "new " + asked[i] + ", station " + s + ": ";
                boolean there = s < given[i];
                due.is(of + "ring", x.ring(s), there ? 0 : -1);
                due.is(of + "bid", x.bid(s, 20) ? 1 : 0, there ? 1 : 0);
                due.is(of + "station", x.station(s, 0), there ? 0 : -1);
            }
        }
    }

    private static void ringOfAllStationsClaims() {
        due.sentence("The ring of all stations claims.");
        for (int n = 1; n <= 7; n++) {
            DualRing x = new DualRing(n);
            int count = n == 1 || n == 7 ? 4 : n;
            for (int s = 0; s < count; s++) {
                due.is(n + ": state(" + s + ")", x.state(s), 1);
            }
            x.tick(2 * count - 1);
            due.is(n + ": state(0) after 2 * N - 1", x.state(0), 1);
            x.tick(1);
            due.is(n + ": state(0) after 2 * N", x.state(0), 2);
            x.tick(1);
            due.is(n + ": the ring is closed", x.state(0), 3);
        }
    }

    /** Each station is alone for three ticks: operating tells its bid, station(s, 3) its allotment. */
    private static void part(DualRing x, int n) {
        for (int s = 0; s < n; s++) {
            x.cable(s, false);
        }
        x.tick(3);
    }

    private static void bidOfNoStation() {
        due.sentence("The bid of station s becomes t ...; false if there is no such station");
        for (int n = 2; n <= 6; n++) {
            DualRing x = new DualRing(n);
            for (int s : new int[] {MIN, -1, n, n + 1, MAX}) {
                due.no(n + ": bid(" + s + ", 30)", x.bid(s, 30));
            }
            for (int s = 0; s < n; s++) {
                due.yes(n + ": bid(" + s + ", " + (40 + s) + ")", x.bid(s, 40 + s));
            }
            part(x, n);
            for (int s = 0; s < n; s++) {
                due.is(n + ": operating(" + s + ")", x.operating(s), 40 + s);
            }
        }
    }

    private static void bidOfFourToSixty() {
        due.sentence("false if ... t is not 4 .. 60");
        for (int t : new int[] {MIN, -4, 0, 3, 4, 5, 59, 60, 61, 1000, MAX}) {
            boolean taken = t >= 4 && t <= 60;
            DualRing x = new DualRing(3);
            x.bid(1, 33);
            due.is("bid(1, " + t + ")", x.bid(1, t) ? 1 : 0, taken ? 1 : 0);
            part(x, 3);
            due.is("bid " + t + ": operating(1)", x.operating(1), taken ? t : 33);
            due.is("bid " + t + ": operating(0)", x.operating(0), 20);
            due.is("bid " + t + ": operating(2)", x.operating(2), 20);
        }
    }

    private static void bidCountsWhenTheRingClaimsNext() {
        due.sentence("(it counts when its ring claims next)");
        DualRing x = Scenes.ringOf(2, 8);
        x.tick(4);
        x.bid(0, 30);
        x.bid(1, 31);
        due.is("operating(0)", x.operating(0), 8);
        x.tick(90);
        due.is("operating(0): the ring did not claim", x.operating(0), 8);
        x.cable(1, false);
        x.tick(4);
        due.is("operating(0): it did", x.operating(0), 30);
        x.bid(0, 4);
        // A frame of 10 ticks with T = 4 makes the ring claim by itself.
        x.cable(1, true);
        x.tick(4);
        due.is("operating(0)", x.operating(0), 4);
        x.bid(0, 50);
        x.allot(1, 20);
        x.send(1, 0, 10, 3);
        x.tick(20);
        due.is("operating(0): when a station was late twice, too", x.operating(0), 31);
    }

    private static void allotmentOfNoStation() {
        due.sentence("The allotment of station s becomes a ...; false if there is no such station");
        for (int n = 2; n <= 6; n++) {
            DualRing x = new DualRing(n);
            for (int s : new int[] {MIN, -1, n, n + 1, MAX}) {
                due.no(n + ": allot(" + s + ", 9)", x.allot(s, 9));
            }
            for (int s = 0; s < n; s++) {
                due.yes(n + ": allot(" + s + ", " + (10 + s) + ")", x.allot(s, 10 + s));
            }
            part(x, n);
            for (int s = 0; s < n; s++) {
                due.is(n + ": station(" + s + ", 3)", x.station(s, 3), 10 + s);
            }
        }
    }

    private static void allotmentOfZeroToTwenty() {
        due.sentence("false if ... a is not 0 .. 20");
        for (int a : new int[] {MIN, -20, -1, 0, 1, 19, 20, 21, 100, MAX}) {
            boolean taken = a >= 0 && a <= 20;
            DualRing x = new DualRing(3);
            x.allot(1, 7);
            due.is("allot(1, " + a + ")", x.allot(1, a) ? 1 : 0, taken ? 1 : 0);
            part(x, 3);
            due.is("allot " + a + ": station(1, 3)", x.station(1, 3), taken ? a : 7);
            due.is("allot " + a + ": station(0, 3)", x.station(0, 3), 0);
            due.is("allot " + a + ": station(2, 3)", x.station(2, 3), 0);
        }
    }

    private static void allotmentCountsWhenTheTokenArrivesNext() {
        due.sentence("(it counts when the token arrives next)");
        DualRing before = new DualRing(3);
        before.send(0, 1, 2, 3);
        before.tick(6);
        before.allot(0, 2);
        due.is("station(0, 3): the token is on the hop", before.station(0, 3), 0);
        before.tick(1);
        due.is("station(0, 3): it arrives", before.station(0, 3), 2);
        before.tick(1);
        due.is("state(0)", before.state(0), 4);

        DualRing behind = new DualRing(3);
        behind.send(0, 1, 2, 3);
        behind.tick(7);
        behind.allot(0, 2);
        due.is("station(0, 3): the token is there already", behind.station(0, 3), 0);
        behind.tick(1);
        due.is("state(0): the frame has to wait", behind.state(0), 2);
        behind.tick(4);
        due.is("station(0, 3) before it arrives again", behind.station(0, 3), 0);
        behind.tick(1);
        due.is("station(0, 3)", behind.station(0, 3), 2);
        behind.tick(1);
        due.is("state(0)", behind.state(0), 4);
        due.is("station(0, 3)", behind.station(0, 3), 0);
    }

    private static void frameOfNoStation() {
        due.sentence("False, refused, if s or target is no station");
        for (int n = 2; n <= 6; n++) {
            DualRing x = new DualRing(n);
            for (int s : new int[] {MIN, -1, n, n + 1, MAX}) {
                due.no(n + ": send(" + s + ", 0, 1, 3)", x.send(s, 0, 1, 3));
                due.no(n + ": send(0, " + s + ", 1, 3)", x.send(0, s, 1, 3));
                due.no(n + ": send(" + s + ", " + s + ", 1, 3)", x.send(s, s, 1, 3));
            }
            due.is(n + ": station(0, 4)", x.station(0, 4), 0);
            due.yes(n + ": send(0, N - 1, 1, 3)", x.send(0, n - 1, 1, 3));
            due.yes(n + ": send(N - 1, 0, 1, 3)", x.send(n - 1, 0, 1, 3));
            due.is(n + ": station(0, 4)", x.station(0, 4), 1);
            due.is(n + ": station(N - 1, 4)", x.station(n - 1, 4), 1);
        }
    }

    private static void frameToItself() {
        due.sentence("or both are the same");
        DualRing x = new DualRing(6);
        for (int s = 0; s < 6; s++) {
            for (int target = 0; target < 6; target++) {
                for (int priority = 2; priority <= 3; priority++) {
                    int taken = x.send(s, target, 1, priority) ? 1 : 0;
                    due.is("send(" + s + ", " + target + ", 1, " + priority + ")", taken, s == target ? 0 : 1);
                }
            }
            due.is("station(" + s + ", 4)", x.station(s, 4), 5);
            due.is("station(" + s + ", 5)", x.station(s, 5), 5);
        }
    }

    private static void frameOfOneToTen() {
        due.sentence("length is not 1 .. 10");
        for (int length : new int[] {MIN, -1, 0, 1, 2, 9, 10, 11, 12, MAX}) {
            int taken = length >= 1 && length <= 10 ? 1 : 0;
            for (int priority = 0; priority <= 3; priority++) {
                DualRing x = new DualRing(2);
                String call = "send(0, 1, " + length + ", " + priority + ")";
                due.is(call, x.send(0, 1, length, priority) ? 1 : 0, taken);
                due.is(call + ": station(0, 4)", x.station(0, 4), priority == 3 ? taken : 0);
                due.is(call + ": station(0, 5)", x.station(0, 5), priority == 3 ? 0 : taken);
                x.allot(0, 20);
                x.tick(30);
                due.is(call + ": station(1, 8)", x.station(1, 8), taken * length);
            }
        }
    }

    private static void frameOfPriorityZeroToThree() {
        due.sentence("priority not 0 .. 3");
        for (int priority : new int[] {MIN, -2, -1, 0, 1, 2, 3, 4, 5, MAX}) {
            int taken = priority >= 0 && priority <= 3 ? 1 : 0;
            DualRing x = new DualRing(2);
            String call = "send(1, 0, 3, " + priority + ")";
            due.is(call, x.send(1, 0, 3, priority) ? 1 : 0, taken);
            due.is(call + ": station(1, 4)", x.station(1, 4), priority == 3 ? 1 : 0);
            due.is(call + ": station(1, 5)", x.station(1, 5), priority == 3 ? 0 : taken);
            x.allot(1, 20);
            x.tick(30);
            due.is(call + ": station(0, 8)", x.station(0, 8), 3 * taken);
        }
    }

    private static void frameOfAStationThatIsOff() {
        due.sentence("False, refused, if s or target is no station");
        DualRing x = new DualRing(2);
        x.power(0, false);
        due.yes("send(0, 1, 2, 2): it is off, but a station", x.send(0, 1, 2, 2));
        due.yes("send(1, 0, 2, 2): the target is off, but a station", x.send(1, 0, 2, 2));
        x.power(0, true);
        due.is("station(0, 5): its queue became empty when it went off, and not since", x.station(0, 5), 1);
        x.tick(20);
        due.is("station(1, 8)", x.station(1, 8), 2);
        due.is("station(0, 8)", x.station(0, 8), 2);
    }

    private static void cableThatIsNone() {
        due.sentence("Cable s is cut (on false) or mended; false if there is none");
        for (int n = 2; n <= 6; n++) {
            DualRing x = new DualRing(n);
            x.tick(2 * n);
            for (int s : new int[] {MIN, -1, n, n + 1, MAX}) {
                due.no(n + ": cable(" + s + ", false)", x.cable(s, false));
                due.no(n + ": cable(" + s + ", true)", x.cable(s, true));
            }
            due.is(n + ": operating(0)", x.operating(0), 20);
            due.yes(n + ": cable(0, false)", x.cable(0, false));
            due.is(n + ": operating(0)", x.operating(0), 0);
            due.yes(n + ": cable(N - 1, false)", x.cable(n - 1, false));
            due.is(n + ": ring(0)", x.ring(0), 0);
            due.is(n + ": ring(N - 1)", x.ring(n - 1), 1);
        }
    }

    private static void cableThatIsSo() {
        due.sentence("Cable s is cut (on false) or mended; false if ... it is so");
        for (int s = 0; s < 3; s++) {
            DualRing x = new DualRing(3);
            x.tick(6);
            due.no("cable(" + s + ", true): it is whole", x.cable(s, true));
            due.is("operating(0)", x.operating(0), 20);
            due.yes("cable(" + s + ", false)", x.cable(s, false));
            due.is("state(0)", x.state(0), 1);
            x.tick(5);
            due.no("cable(" + s + ", false): it is cut", x.cable(s, false));
            x.tick(1);
            due.is("operating(0): the claim did not begin again", x.operating(0), 20);
            due.no("cable(" + s + ", false): it is cut", x.cable(s, false));
            due.is("operating(0)", x.operating(0), 20);
            due.yes("cable(" + s + ", true)", x.cable(s, true));
            due.is("state(0)", x.state(0), 1);
            x.tick(6);
            due.no("cable(" + s + ", true): it is whole", x.cable(s, true));
            due.is("operating(0)", x.operating(0), 20);
        }
    }

    private static void powerOfNoStation() {
        due.sentence("Station s goes on or off ... false if there is none");
        for (int n = 2; n <= 6; n++) {
            DualRing x = new DualRing(n);
            x.tick(2 * n);
            for (int s : new int[] {MIN, -1, n, n + 1, MAX}) {
                due.no(n + ": power(" + s + ", false)", x.power(s, false));
                due.no(n + ": power(" + s + ", true)", x.power(s, true));
            }
            due.is(n + ": operating(0)", x.operating(0), 20);
            due.yes(n + ": power(N - 1, false)", x.power(n - 1, false));
            due.is(n + ": ring(N - 1)", x.ring(n - 1), -1);
            due.is(n + ": operating(0)", x.operating(0), 0);
            due.yes(n + ": power(0, false)", x.power(0, false));
            due.is(n + ": ring(0)", x.ring(0), -1);
        }
    }

    private static void powerThatIsSo() {
        due.sentence("Station s goes on or off ... false if ... it is so");
        for (int s = 0; s < 3; s++) {
            int other = (s + 1) % 3;
            DualRing x = new DualRing(3);
            x.send(s, other, 1, 0);
            x.tick(6);
            due.no("power(" + s + ", true): it is on", x.power(s, true));
            due.is("operating(" + s + ")", x.operating(s), 20);
            due.is("station(" + s + ", 5)", x.station(s, 5), 1);
            due.yes("power(" + s + ", false)", x.power(s, false));
            due.is("station(" + s + ", 5)", x.station(s, 5), 0);
            x.send(s, other, 1, 0);
            x.tick(3);
            due.no("power(" + s + ", false): it is off", x.power(s, false));
            due.is("station(" + s + ", 5): its queue stays", x.station(s, 5), 1);
            x.tick(1);
            due.is("operating(" + other + "): the claim did not begin again", x.operating(other), 20);
            due.yes("power(" + s + ", true)", x.power(s, true));
            due.is("state(" + s + ")", x.state(s), 1);
            due.is("station(" + s + ", 5): it goes on with its queue", x.station(s, 5), 1);
        }
    }

    private static void queuesBecomeEmptyWhenItGoesOff() {
        due.sentence("when it goes off, its queues become empty");
        DualRing x = new DualRing(3);
        for (int s = 0; s < 3; s++) {
            for (int i = 0; i < 5; i++) {
                x.send(s, (s + 1) % 3, 2, 3);
                x.send(s, (s + 2) % 3, 2, 1);
            }
        }
        x.power(1, false);
        due.text("station 1", Scenes.told(x, 1, 4, 5), "0 0");
        due.text("station 0: it stays on", Scenes.told(x, 0, 4, 5), "5 5");
        due.text("station 2: it stays on", Scenes.told(x, 2, 4, 5), "5 5");
        due.is("station(1, 11): frames that wait are not being sent", x.station(1, 11), 0);
        for (int i = 1; i <= 6; i++) {
            due.is("synchronous frame " + i, x.send(1, 0, 1, 3) ? 1 : 0, i <= 5 ? 1 : 0);
            due.is("asynchronous frame " + i, x.send(1, 0, 1, 0) ? 1 : 0, i <= 5 ? 1 : 0);
        }
        x.power(1, true);
        due.text("station 1: not when it goes on", Scenes.told(x, 1, 4, 5), "5 5");
    }

    private static void frameBeingSentIsLostWhenItGoesOff() {
        due.sentence("its queues become empty (a frame that is being sent is LOST, as said above)");
        for (int priority = 2; priority <= 3; priority++) {
            // The token is at 0 with tick 5; the frames begin with ticks 6 and 9, and the second is done with tick 12.
            for (int ticks = 4; ticks <= 13; ticks++) {
                DualRing x = new DualRing(2);
                x.allot(0, 6);
                x.send(0, 1, 3, priority);
                x.send(0, 1, 3, priority);
                x.tick(ticks);
                x.power(0, false);
                int lost = ticks >= 6 && ticks < 12 ? 1 : 0;
                int sent = ticks < 9 ? 0 : ticks < 12 ? 3 : 6;
                due.text("tick " + ticks + ": queues", Scenes.told(x, 0, 4, 5), "0 0");
                due.text("tick " + ticks + ": sent, lost", Scenes.told(x, 0, 10, 11), sent + " " + lost);
                x.tick(20);
                due.is("tick " + ticks + ": station(1, 8)", x.station(1, 8), sent);
                due.text("tick " + ticks + ", later", Scenes.told(x, 0, 10, 11), sent + " " + lost);
            }
        }
    }

    private static void countsStayWhenItGoesOff() {
        due.sentence("and what it counts stays else");
        DualRing x = Scenes.ringOf(3, 30);
        x.bid(1, 35);
        x.allot(1, 7);
        x.send(1, 2, 4, 2);
        x.send(0, 1, 3, 2);
        x.send(1, 0, 4, 2);
        x.send(2, 1, 2, 2);
        // The token is at 0 with tick 7, at 1 with tick 12 and at 2 with tick 22, and at 0 again with tick 26.
        x.tick(27);
        String want = "15 0 16 7 0 0 0 2 5 2 8 0";
        due.text("station 1", Scenes.told(x, 1, 0, 11), want);
        float rotation = x.rotation(1);
        due.real("rotation(1)", rotation, 1.5);
        x.power(1, false);
        due.text("station 1 when it is off", Scenes.told(x, 1, 0, 11), want);
        x.tick(13);
        due.text("station 1, later", Scenes.told(x, 1, 0, 11), want);
        due.real("rotation(1), later", x.rotation(1), rotation);
        due.real("share(1), later", x.share(1), 8.0 / 40.0);
        x.power(1, true);
        due.text("station 1 when it is on again", Scenes.told(x, 1, 0, 11), want);
        x.tick(6);
        due.text("station 1 when its ring operates", Scenes.told(x, 1, 0, 11), "0 0 0 0 0 0 0 2 5 2 8 0");
        x.tick(3);
        due.is("station(1, 3): its allotment", x.station(1, 3), 7);
        part(x, 3);
        due.is("operating(1): its bid", x.operating(1), 35);
    }

    private static void oneToAHundredTicks() {
        due.sentence("n ticks ... False if n is not 1 .. 100.");
        for (int n : new int[] {MIN, -100, -1, 0, 1, 2, 99, 100, 101, 200, MAX}) {
            boolean taken = n >= 1 && n <= 100;
            DualRing x = new DualRing(2);
            x.send(0, 1, 1, 2);
            x.tick(7);
            due.is("tick(" + n + ")", x.tick(n) ? 1 : 0, taken ? 1 : 0);
            due.real("tick(" + n + "): share(0)", x.share(0), 1.0 / (taken ? 7 + n : 7));
            // The frame is done with tick 7; from there on a round takes 4 ticks: on the hop, at 1, on the hop, at 0.
            int phase = (taken ? n : 0) % 4;
            due.is("tick(" + n + "): state(1)", x.state(1), phase == 1 ? 3 : 2);
            due.is("tick(" + n + "): state(0)", x.state(0), phase == 3 ? 3 : 2);
        }
    }
}
