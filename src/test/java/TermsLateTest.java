/** The document's terms, third part: TRT, and stations that are late once or twice. */
public final class TermsLateTest {
    private static final Due due = new Due();

    public static void main(String[] args) {
        lateWhenTrtIsT();
        lateOnceGoesOn();
        lateTwiceClaims();
        arrivalInBetweenMakesItOnce();
        severalStationsLateOnceGoOn();
        stationsBehindStandStill();
        stationsBehindInARowThatGoesOnFromTheLastNumber();
        tokenDoesNotArriveInTheTickOfTheClaim();
        frameIsNotDoneInTheTickOfTheClaim();
        noFrameBeginsInTheTickOfTheClaim();
        otherRingsHaveTheirTick();
        claimTakesTwoTicksAStationBehindThatTick();
        due.end();
    }

    /** No token comes to station 5 for long: the others send all they may. */
    private static DualRing sixThatSend(int t) {
        DualRing x = Scenes.ringOf(6, t);
        x.allot(0, 20);
        x.send(0, 1, 10, 3);
        x.send(0, 1, 10, 3);
        for (int s = 1; s < 5; s++) {
            x.allot(s, 20);
            x.send(s, 0, 10, 3);
            x.send(s, 0, 10, 3);
        }
        x.tick(12);
        return x;
    }

    private static void lateWhenTrtIsT() {
        due.sentence("SINCE grows by 1, and TRT; if TRT is T then, TRT is 0 and LATE grows by 1");
        for (int t = 4; t <= 60; t++) {
            DualRing x = sixThatSend(t);
            due.is("T " + t + ": operating(5)", x.operating(5), t);
            x.tick(1);
            due.text("T " + t + ": TRT and LATE of 5 after 1 tick", Scenes.told(x, 5, 0, 1), "1 0");
            x.tick(t - 2);
            due.text("T " + t + ": TRT and LATE of 5 before", Scenes.told(x, 5, 0, 1), (t - 1) + " 0");
            x.tick(1);
            due.text("T " + t + ": TRT and LATE of 5", Scenes.told(x, 5, 0, 1), "0 1");
            x.tick(1);
            due.text("T " + t + ": TRT and LATE of 5 behind", Scenes.told(x, 5, 0, 1), "1 1");
        }
    }

    /**
     * Two stations with T = 4, and 1 wins: the token is at 0 with tick 5, which sends a frame of this
     * length from tick 6 on. Station 1 is late with tick 8, and would be for the second time with tick 12.
     */
    private static DualRing twoWithAFrame(int length) {
        DualRing x = new DualRing(2);
        x.bid(1, 4);
        x.allot(0, 20);
        x.send(0, 1, length, 3);
        return x;
    }

    private static void lateOnceGoesOn() {
        due.sentence("A ring that operates claims anew when a station of it is LATE twice.");
        DualRing x = twoWithAFrame(4);
        x.tick(7);
        due.is("station(1, 1) after 7 ticks", x.station(1, 1), 0);
        x.tick(1);
        due.is("station(1, 1) after 8 ticks", x.station(1, 1), 1);
        due.is("state(0) after 8 ticks", x.state(0), 4);
        x.tick(2);
        due.is("state(0) after 10 ticks", x.state(0), 2);
        due.is("station(1, 7)", x.station(1, 7), 1);
        x.tick(1);
        due.is("state(1): the token comes one tick before", x.state(1), 3);
        due.text("station 1 after 11 ticks", Scenes.told(x, 1, 0, 2), "3 0 0");
        x.tick(1);
        due.text("station 1 after 12 ticks", Scenes.told(x, 1, 0, 2), "0 1 0");
        due.is("state(1): it operates", x.state(1), 2);
        due.is("operating(1)", x.operating(1), 4);
    }

    private static void lateTwiceClaims() {
        due.sentence("if LATE is 2, the ring claims");
        DualRing x = twoWithAFrame(6);
        x.tick(11);
        due.is("station(1, 1) after 11 ticks", x.station(1, 1), 1);
        due.is("state(0) after 11 ticks", x.state(0), 4);
        x.tick(1);
        due.is("station(1, 1) after 12 ticks", x.station(1, 1), 2);
        due.is("station(1, 0) after 12 ticks", x.station(1, 0), 0);
        due.is("state(0)", x.state(0), 1);
        due.is("state(1)", x.state(1), 1);
        due.is("operating(0)", x.operating(0), 0);
        due.is("station(0, 11): the frame is lost", x.station(0, 11), 1);
        due.is("station(0, 4)", x.station(0, 4), 0);
        due.is("station(0, 10)", x.station(0, 10), 0);
    }

    private static void arrivalInBetweenMakesItOnce() {
        due.sentence("claims anew when a station of it is LATE twice ... else THT is 0 and LATE is 0");
        DualRing x = Scenes.lone(4);
        x.allot(0, 5);
        x.send(0, 1, 5, 3);
        int[] late = {0, 0, 0, 1, 1, 1, 0, 1, 0, 0, 0};
        x.tick(3);
        for (int i = 0; i < late.length; i++) {
            x.tick(1);
            due.is("station(0, 1) after " + (4 + i), x.station(0, 1), late[i]);
            due.is("operating(0) after " + (4 + i), x.operating(0), 4);
        }
    }

    private static void severalStationsLateOnceGoOn() {
        due.sentence("when a station of it is LATE twice");
        DualRing x = new DualRing(6);
        x.bid(5, 4);
        x.tick(16);
        int[] late = {0, 0, 1, 1, 1, 1};
        for (int s = 0; s < 6; s++) {
            due.is("station(" + s + ", 1)", x.station(s, 1), late[s]);
        }
        due.is("operating(0): none of them is late twice", x.operating(0), 4);
        x.tick(3);
        due.is("operating(0)", x.operating(0), 4);
        x.tick(1);
        due.is("operating(0): 4 is late twice", x.operating(0), 0);
    }

    private static void stationsBehindStandStill() {
        due.sentence("(that is all of this tick for it, for the stations behind it, too)");
        DualRing x = new DualRing(6);
        x.bid(5, 4);
        x.tick(19);
        String[] before = {"2 1", "0 1", "3 0", "3 0", "3 1", "3 1"};
        for (int s = 0; s < 6; s++) {
            due.text("station " + s + " before", Scenes.told(x, s, 0, 1), before[s]);
        }
        x.tick(1);
        String[] behind = {"3 1", "1 1", "0 1", "0 1", "0 2", "3 1"};
        for (int s = 0; s < 6; s++) {
            due.text("station " + s + ", 4 being late twice", Scenes.told(x, s, 0, 1), behind[s]);
            due.is("state(" + s + ")", x.state(s), 1);
        }
    }

    private static void stationsBehindInARowThatGoesOnFromTheLastNumber() {
        due.sentence("Each of its stations, in its row's order");
        DualRing x = new DualRing(6);
        x.cable(2, false);
        x.bid(2, 4);
        x.tick(18);
        due.is("state(3): the row is 3 4 5 0 1 2", x.state(3), 3);
        x.tick(1);
        String[] before = {"3 1", "3 1", "3 1", "3 0", "3 1", "3 1"};
        for (int s = 0; s < 6; s++) {
            due.text("station " + s + " before", Scenes.told(x, s, 0, 1), before[s]);
        }
        x.tick(1);
        String[] behind = {"3 1", "3 1", "3 1", "0 1", "0 2", "3 1"};
        for (int s = 0; s < 6; s++) {
            due.text("station " + s + ", 4 being late twice", Scenes.told(x, s, 0, 1), behind[s]);
        }
    }

    private static void tokenDoesNotArriveInTheTickOfTheClaim() {
        due.sentence("the ring claims (that is all of this tick for it");
        DualRing x = twoWithAFrame(5);
        x.tick(11);
        due.is("station(1, 7): the frame is done with tick 11", x.station(1, 7), 1);
        due.is("state(0): the token is on the hop", x.state(0), 2);
        float rotation = x.rotation(1);
        x.tick(1);
        due.is("station(1, 1)", x.station(1, 1), 2);
        due.is("state(1): the token did not arrive", x.state(1), 1);
        due.is("station(1, 6)", x.station(1, 6), -1);
        due.real("rotation(1)", x.rotation(1), rotation);
        due.is("station(0, 11): nothing was being sent", x.station(0, 11), 0);
        due.is("station(0, 10)", x.station(0, 10), 5);
    }

    private static void frameIsNotDoneInTheTickOfTheClaim() {
        due.sentence("the ring claims (that is all of this tick for it");
        for (int length = 5; length <= 7; length++) {
            DualRing x = twoWithAFrame(length);
            x.tick(12);
            due.is(length + ": state(1)", x.state(1), 1);
            due.is(length + ": station(1, 7)", x.station(1, 7), length == 5 ? 1 : 0);
            due.is(length + ": station(0, 10)", x.station(0, 10), length == 5 ? 5 : 0);
            due.is(length + ": station(0, 11)", x.station(0, 11), length == 5 ? 0 : 1);
        }
    }

    private static void noFrameBeginsInTheTickOfTheClaim() {
        due.sentence("the ring claims (that is all of this tick for it");
        DualRing x = twoWithAFrame(6);
        x.send(0, 1, 3, 3);
        x.tick(12);
        due.is("station(0, 3): only the first has begun", x.station(0, 3), 14);
        due.is("station(0, 4): the second waits", x.station(0, 4), 1);
        due.is("station(0, 11)", x.station(0, 11), 1);
    }

    private static void otherRingsHaveTheirTick() {
        due.sentence("(that is all of this tick for it");
        DualRing x = new DualRing(4);
        x.cable(1, false);
        x.cable(3, false);
        x.bid(1, 4);
        x.allot(0, 20);
        x.send(0, 1, 10, 3);
        x.send(2, 3, 10, 2);
        // Row 0 1: the token is at 0 with tick 6; station 1 is late with ticks 8 and 12.
        x.tick(11);
        due.is("state(0)", x.state(0), 4);
        due.is("station(3, 0)", x.station(3, 0), 7);
        x.tick(1);
        due.is("state(0)", x.state(0), 1);
        due.is("state(2)", x.state(2), 4);
        due.is("station(3, 0)", x.station(3, 0), 8);
        x.tick(5);
        due.is("station(3, 7): done with tick 17", x.station(3, 7), 1);
        due.is("station(2, 11)", x.station(2, 11), 0);
    }

    private static void claimTakesTwoTicksAStationBehindThatTick() {
        due.sentence("every other one CLAIMS: ... for 2 * m ticks nothing else happens in it");
        DualRing x = twoWithAFrame(6);
        x.send(0, 1, 2, 3);
        x.tick(12 + 3);
        due.is("state(1)", x.state(1), 1);
        due.text("station 1", Scenes.told(x, 1, 0, 3), "0 2 0 0");
        due.text("station 0", Scenes.told(x, 0, 0, 3), "3 1 3 14");
        x.tick(1);
        due.is("operating(1)", x.operating(1), 4);
        due.text("station 1", Scenes.told(x, 1, 0, 3), "0 0 0 0");
        due.text("station 0", Scenes.told(x, 0, 0, 3), "0 0 0 0");
        due.text("1 has won again", Scenes.path(x, "01", 3), "000");
        x.tick(1);
        due.is("station(1, 8): the second frame", x.station(1, 8), 2);

        DualRing lone = Scenes.lone(4);
        lone.allot(0, 20);
        lone.send(0, 1, 10, 3);
        lone.tick(11);
        due.is("lone: station(0, 1)", lone.station(0, 1), 2);
        lone.tick(1);
        due.is("lone: state(0)", lone.state(0), 1);
        lone.tick(1);
        due.is("lone: state(0)", lone.state(0), 2);
    }
}
