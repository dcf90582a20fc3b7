/** Promises 8 to 14: the boundaries that they name, just inside and just outside. */
public final class EdgesOfAnswersTest {
    private static final int MIN = Integer.MIN_VALUE;
    private static final int MAX = Integer.MAX_VALUE;
    private static final Due due = new Due();

    public static void main(String[] args) {
        noStationHasAnAnswer();
        ringOfAStationThatIsOff();
        statesOfAStation();
        stateOfAStationThatIsOff();
        operatingOnlyWhileItOperates();
        operatingOfAStationThatIsOff();
        whatIsZeroToEleven();
        waitingFramesCountTheOneBeingSent();
        heardIsNoneBeforeTheTokenCame();
        lastIsNoneBeforeAFrameCame();
        rotationIsZeroAtFirst();
        shareWithoutTicks();
        shareIsADouble();
        longestIsZeroWithoutASecondArrival();
        longestOfSecondArrivals();
        longestSinceTheRingBeganToOperate();
        due.end();
    }

    private static void noStationHasAnAnswer() {
        due.sentence("if it is off or there is none ... if there is no such station");
        for (int n = 2; n <= 6; n++) {
            DualRing x = new DualRing(n);
            x.send(n - 1, 0, 2, 2);
            x.tick(50);
            for (int s : new int[] {MIN, -1, n, n + 1, MAX}) {
                String of = n + ", station " + s + ": ";
                due.is(of + "ring", x.ring(s), -1);
                due.is(of + "state", x.state(s), 0);
                due.is(of + "operating", x.operating(s), 0);
                for (int what = -1; what <= 12; what++) {
                    due.is(of + "station(s, " + what + ")", x.station(s, what), -1);
                }
                due.real(of + "rotation", x.rotation(s), 0.0);
                due.real(of + "share", x.share(s), 0.0);
            }
            for (int s = 0; s < n; s += n - 1) {
                String of = n + ", station " + s + ": ";
                due.is(of + "ring", x.ring(s), 0);
                due.is(of + "operating", x.operating(s), 20);
                due.yes(of + "state", x.state(s) >= 2);
                due.yes(of + "rotation", x.rotation(s) > 0);
                due.real(of + "share", x.share(s), s == 0 ? 0.0 : 2.0 / 50.0);
            }
        }
    }

    private static void ringOfAStationThatIsOff() {
        due.sentence("The first station of the ring of station s; -1 if it is off");
        DualRing x = new DualRing(3);
        for (int s = 0; s < 3; s++) {
            x.power(s, false);
            due.is("ring(" + s + "): off", x.ring(s), -1);
            x.power(s, true);
            due.is("ring(" + s + "): on", x.ring(s), 0);
        }
        x.power(0, false);
        x.power(2, false);
        due.is("ring(1): alone", x.ring(1), 1);
        x.power(1, false);
        due.is("ring(1): off", x.ring(1), -1);
    }

    private static void statesOfAStation() {
        due.sentence("1 it claims, 2 it operates and the token is elsewhere, 3 the token is at s, "
            + "4 the token is at s, which sends");
        DualRing x = new DualRing(2);
        x.send(0, 1, 1, 2);
        x.send(0, 1, 1, 2);
        int[] zero = {1, 1, 1, 1, 2, 3, 4, 4, 2, 2, 2, 3, 2};
        int[] one = {1, 1, 1, 1, 2, 2, 2, 2, 2, 3, 2, 2, 2};
        for (int i = 0; i < zero.length; i++) {
            due.is("state(0) after " + i, x.state(0), zero[i]);
            due.is("state(1) after " + i, x.state(1), one[i]);
            x.tick(1);
        }
    }

    private static void stateOfAStationThatIsOff() {
        due.sentence("Of the ring of station s: 0 it is off (or there is none)");
        DualRing x = new DualRing(2);
        x.send(0, 1, 5, 2);
        x.tick(6);
        due.is("state(0): it sends", x.state(0), 4);
        x.power(0, false);
        due.is("state(0): it is off", x.state(0), 0);
        due.is("state(1): its ring claims", x.state(1), 1);
        x.tick(50);
        due.is("state(0)", x.state(0), 0);
        x.power(0, true);
        due.is("state(0): it is on", x.state(0), 1);
    }

    private static void operatingOnlyWhileItOperates() {
        due.sentence("T of the ring of station s; 0 if it does not operate");
        DualRing x = Scenes.ringOf(2, 4);
        x.allot(0, 20);
        x.send(0, 1, 10, 3);
        // Station 1 is late with ticks 8 and 12, and the claim that comes of it ends with tick 16.
        for (int ticks = 0; ticks <= 17; ticks++) {
            boolean operates = ticks >= 4 && ticks < 12 || ticks >= 16;
            due.is("operating(0) after " + ticks, x.operating(0), operates ? 4 : 0);
            due.is("operating(1) after " + ticks, x.operating(1), operates ? 4 : 0);
            x.tick(1);
        }
    }

    private static void operatingOfAStationThatIsOff() {
        due.sentence("0 if it does not operate");
        DualRing x = new DualRing(3);
        x.tick(6);
        due.is("operating(2)", x.operating(2), 20);
        x.power(2, false);
        x.tick(4);
        due.is("operating(2): it is off", x.operating(2), 0);
        due.is("operating(1)", x.operating(1), 20);
    }

    private static void whatIsZeroToEleven() {
        due.sentence("-1 for another what, or if there is no such station");
        DualRing x = new DualRing(2);
        x.allot(0, 6);
        x.send(0, 1, 2, 3);
        x.send(1, 0, 1, 2);
        x.tick(30);
        for (int s = 0; s < 2; s++) {
            for (int what : new int[] {MIN, -12, -2, -1, 12, 13, 100, MAX}) {
                due.is("station(" + s + ", " + what + ")", x.station(s, what), -1);
            }
            for (int what = 0; what <= 11; what++) {
                due.yes("station(" + s + ", " + what + ") is a number", x.station(s, what) >= 0);
            }
        }
    }

    private static void waitingFramesCountTheOneBeingSent() {
        due.sentence("4 how many synchronous frames wait (also one that is being sent), 5 how many asynchronous ones");
        DualRing x = new DualRing(2);
        x.allot(0, 9);
        x.send(0, 1, 2, 3);
        x.send(0, 1, 1, 3);
        x.send(0, 1, 2, 2);
        // The frames begin with ticks 6, 8 and 9; the last is done with tick 11.
        String[] waiting = {"2 1", "2 1", "2 1", "1 1", "0 1", "0 1", "0 0"};
        for (int i = 0; i < waiting.length; i++) {
            x.tick(i == 0 ? 5 : 1);
            due.text("waiting after " + (5 + i), Scenes.told(x, 0, 4, 5), waiting[i]);
        }
    }

    private static void heardIsNoneBeforeTheTokenCame() {
        due.sentence("6 HEARD (-1 if the token never came)");
        DualRing x = new DualRing(3);
        x.tick(6);
        int[] came = {7, 9, 11};
        for (int ticks = 6; ticks <= 12; ticks++) {
            for (int s = 0; s < 3; s++) {
                due.is("station(" + s + ", 6) after " + ticks, x.station(s, 6), ticks < came[s] ? -1 : (s + 2) % 3);
            }
            x.tick(1);
        }
    }

    private static void lastIsNoneBeforeAFrameCame() {
        due.sentence("7 frames received, 8 ticks received, 9 LAST (-1 if none)");
        DualRing x = new DualRing(3);
        x.send(0, 1, 2, 2);
        x.tick(9);
        due.text("station 1: a frame for it is being sent", Scenes.told(x, 1, 7, 9), "0 0 -1");
        x.tick(1);
        due.text("station 1", Scenes.told(x, 1, 7, 9), "1 2 0");
        due.text("station 2: none came", Scenes.told(x, 2, 7, 9), "0 0 -1");
        due.text("station 0: none came", Scenes.told(x, 0, 7, 9), "0 0 -1");
    }

    private static void rotationIsZeroAtFirst() {
        due.sentence("ROTATION of station s (0 at first); 0 if there is no such station");
        DualRing x = new DualRing(3);
        due.real("rotation(1)", x.rotation(1), 0.0);
        x.tick(8);
        due.real("rotation(1): the token never came", x.rotation(1), 0.0);
        x.tick(1);
        due.real("rotation(1): SINCE was 3", x.rotation(1), 0.75);
    }

    private static void shareWithoutTicks() {
        due.sentence("divided by all ticks so far, as a double; 0 if there were none");
        DualRing x = new DualRing(2);
        x.send(0, 1, 1, 2);
        due.real("share(0) without ticks", x.share(0), 0.0);
        x.tick(0);
        x.tick(101);
        due.real("share(0): they were refused", x.share(0), 0.0);
        x.tick(1);
        due.real("share(0): nothing was sent", x.share(0), 0.0);
        x.tick(6);
        due.real("share(0): one of 7", x.share(0), 1.0 / 7.0);
    }

    private static void shareIsADouble() {
        due.sentence("The ticks that station s has sent, divided by all ticks so far, as a double");
        DualRing x = Scenes.ringOf(2, 60);
        for (int i = 0; i < 5; i++) {
            x.send(0, 1, 10, 2);
        }
        x.tick(15);
        for (int ticks = 15; ticks < 60; ticks++) {
            // The frames are done with ticks 16, 26, 36 and 46: THT is 19 then, and the fifth goes, too.
            int done = ticks < 16 ? 0 : Math.min(5, (ticks - 6) / 10);
            due.real("share(0) after " + ticks, x.share(0), 10.0 * done / ticks);
            due.real("share(1) after " + ticks, x.share(1), 0.0);
            x.tick(1);
        }
        DualRing off = new DualRing(2);
        off.power(0, false);
        off.power(1, false);
        off.tick(10);
        due.real("share(0): no ring is there, but ticks go by", off.share(0), 0.0);
        off.power(0, true);
        off.send(0, 1, 1, 2);
        off.tick(5);
        due.real("share(0): all ticks count", off.share(0), 1.0 / 15.0);
    }

    private static void longestIsZeroWithoutASecondArrival() {
        due.sentence("at which it had arrived already since its ring began to operate; 0 if there was none");
        DualRing x = new DualRing(6);
        due.is("longest() without ticks", x.longest(), 0);
        x.tick(12 + 12);
        due.is("longest(): each for the first time, also the winner", x.longest(), 0);
        x.tick(1);
        due.is("longest(): 0 for the second time", x.longest(), 12);
        DualRing lone = Scenes.lone(20);
        lone.tick(4);
        due.is("lone: longest()", lone.longest(), 0);
        lone.tick(1);
        due.is("lone: longest()", lone.longest(), 2);
    }

    private static void longestOfSecondArrivals() {
        due.sentence("The greatest SINCE with which the token arrived at a station");
        DualRing x = Scenes.lone(40);
        x.tick(5);
        due.is("longest()", x.longest(), 2);
        int[] length = {3, 2, 4, 1, 10};
        int[] longest = {5, 5, 6, 6, 12};
        for (int i = 0; i < length.length; i++) {
            x.send(0, 1, length[i], 2);
            x.tick(1 + length[i]);
            due.is("longest() before it arrives, frame " + i, x.longest(), i == 0 ? 2 : longest[i - 1]);
            x.tick(1);
            due.is("longest(), frame " + i, x.longest(), longest[i]);
        }
    }

    private static void longestSinceTheRingBeganToOperate() {
        due.sentence("a station at which it had arrived already since its ring began to operate");
        DualRing x = Scenes.lone(40);
        x.tick(5);
        x.power(1, true);
        x.send(1, 0, 10, 2);
        // The ring is closed, the claim takes 4 ticks, and 1 wins: the token is at 0 with the fifth tick,
        // and at 1 with the seventh.
        x.tick(4 + 1 + 2);
        due.is("state(1)", x.state(1), 3);
        x.tick(10);
        x.send(0, 1, 5, 2);
        x.cable(0, false);
        // The row is 1 0, and 1 wins: the token is at 0 with the fifth tick, and at 1, behind the frame,
        // with the 13th.
        x.tick(4 + 1);
        due.is("longest(): 0 for the first time since then", x.longest(), 2);
        x.tick(8);
        due.is("state(1)", x.state(1), 3);
        due.is("longest(): 1 for the first time since then", x.longest(), 2);
        x.tick(2);
        due.is("state(0)", x.state(0), 3);
        due.is("longest(): 0 for the second time", x.longest(), 10);
        x.power(0, false);
        due.is("longest() stays", x.longest(), 10);
    }
}
