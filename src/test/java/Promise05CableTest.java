/** Promise 5: cables are cut and mended, and the rings that change by it claim. */
public final class Promise05CableTest {
    private static final Due due = new Due();

    public static void main(String[] args) {
        refusesWhatIsNoneOrIsSo();
        oneCutWrapsTheWholeRing();
        cutBehindTheLastStationOpensTheRing();
        severalCutsMakeSeveralRings();
        onlyARingThatChangesClaims();
        cutUnderwayLosesTheFrameBeingSent();
        frameToAnotherRingIsLost();
        twoStations();
        due.end();
    }

    private static void refusesWhatIsNoneOrIsSo() {
        DualRing x = new DualRing(3);
        x.tick(6);
        due.no("cable(0, true)", x.cable(0, true));
        due.no("cable(3, false)", x.cable(3, false));
        due.no("cable(-1, false)", x.cable(-1, false));
        due.no("cable(MIN, false)", x.cable(Integer.MIN_VALUE, false));
        due.no("cable(MAX, true)", x.cable(Integer.MAX_VALUE, true));
        due.is("state(0): nothing changed", x.state(0), 2);
        due.yes("cable(2, false)", x.cable(2, false));
        due.no("cable(2, false) again", x.cable(2, false));
        due.yes("cable(2, true)", x.cable(2, true));
        due.no("cable(2, true) again", x.cable(2, true));
    }

    private static void oneCutWrapsTheWholeRing() {
        DualRing x = new DualRing(4);
        x.tick(8);
        due.yes("cable(1, false)", x.cable(1, false));
        for (int s = 0; s < 4; s++) {
            due.is("ring(" + s + ")", x.ring(s), 2);
            due.is("state(" + s + ")", x.state(s), 1);
        }
        x.bid(1, 10);
        x.tick(8);
        due.is("operating(2)", x.operating(2), 10);
        x.tick(3);
        due.is("state(2): the hop from the last to the first takes 4", x.state(2), 2);
        x.tick(1);
        due.is("state(2)", x.state(2), 3);
        due.is("station(2, 6)", x.station(2, 6), 1);
        x.tick(2);
        due.is("state(3): a hop in the row takes 1", x.state(3), 3);
        x.tick(2);
        due.is("state(0): from 3 to 0 as well", x.state(0), 3);
        due.is("station(0, 6)", x.station(0, 6), 3);
    }

    private static void cutBehindTheLastStationOpensTheRing() {
        DualRing x = new DualRing(3);
        x.tick(8);
        x.cable(2, false);
        due.is("ring(2): the row is as before", x.ring(2), 0);
        due.is("state(0): it is closed no more, so it claims", x.state(0), 1);
        x.tick(6);
        due.is("state(0)", x.state(0), 2);
        x.cable(2, true);
        due.is("state(0): it is closed again, so it claims", x.state(0), 1);
        x.tick(7);
        due.is("state(0): the hop takes 1 again", x.state(0), 3);
    }

    private static void severalCutsMakeSeveralRings() {
        DualRing x = new DualRing(6);
        x.cable(0, false);
        x.cable(3, false);
        int[] first = {4, 1, 1, 1, 4, 4};
        for (int s = 0; s < 6; s++) {
            due.is("ring(" + s + ")", x.ring(s), first[s]);
        }
        x.cable(1, false);
        x.cable(2, false);
        x.cable(4, false);
        x.cable(5, false);
        for (int s = 0; s < 6; s++) {
            due.is("ring(" + s + ") with all cables cut", x.ring(s), s);
        }
        x.tick(1);
        due.is("state(3)", x.state(3), 1);
        x.tick(1);
        due.is("state(3): a lone station claims 2 ticks", x.state(3), 2);
        x.tick(1);
        due.is("state(3): its hop to itself takes 1", x.state(3), 3);
        due.is("station(3, 6): it hears itself", x.station(3, 6), 3);
    }

    private static void onlyARingThatChangesClaims() {
        DualRing x = new DualRing(6);
        x.cable(2, false);
        x.cable(5, false);
        x.tick(6);
        due.is("state(0)", x.state(0), 2);
        due.is("state(4)", x.state(4), 2);
        x.cable(3, false);
        due.is("state(0): its row is as before", x.state(0), 2);
        due.is("state(3): alone now", x.state(3), 1);
        due.is("state(5): without 3 now", x.state(5), 1);
        x.tick(3);
        x.cable(0, false);
        due.is("state(4): its claim goes on", x.state(4), 1);
        x.tick(1);
        due.is("state(4): it was not begun again", x.state(4), 2);
        due.is("state(1)", x.state(1), 1);
        x.tick(2);
        x.cable(0, true);
        x.tick(5);
        due.is("state(1): joined again, it claims from the beginning", x.state(1), 1);
        x.tick(1);
        due.is("state(1)", x.state(1), 2);

        x.power(0, false);
        x.power(1, false);
        x.tick(2);
        due.is("operating(2)", x.operating(2), 20);
        x.cable(0, false);
        due.is("state(2): a cable between stations that are off is in no ring", x.state(2), 2);
        x.cable(5, true);
        due.is("operating(4): a cable to a station that is off joins nothing", x.operating(4), 20);
    }

    private static void cutUnderwayLosesTheFrameBeingSent() {
        DualRing x = new DualRing(3);
        x.allot(0, 20);
        x.send(0, 1, 5, 3);
        x.send(0, 2, 4, 3);
        x.tick(9);
        due.is("state(0)", x.state(0), 4);
        x.cable(1, false);
        due.is("station(0, 4): the first is taken out", x.station(0, 4), 1);
        due.is("station(0, 11)", x.station(0, 11), 1);
        due.is("station(0, 10): nothing of it counts as sent", x.station(0, 10), 0);
        due.is("state(0)", x.state(0), 1);
        x.tick(4);
        x.cable(1, true);
        due.is("station(0, 11): none is being sent while it claims", x.station(0, 11), 1);
        x.tick(8);
        due.is("state(0): it sends the second", x.state(0), 4);
        x.tick(4);
        due.is("station(2, 8)", x.station(2, 8), 4);
        due.is("station(1, 8)", x.station(1, 8), 0);
    }

    private static void frameToAnotherRingIsLost() {
        DualRing x = new DualRing(4);
        x.cable(1, false);
        x.cable(3, false);
        x.send(0, 2, 3, 2);
        x.send(0, 1, 2, 2);
        x.tick(4);
        x.tick(2);
        due.is("state(0): from 1 the hop takes 2", x.state(0), 3);
        x.tick(4);
        due.is("station(0, 11): 2 is in another ring", x.station(0, 11), 1);
        due.is("station(2, 7)", x.station(2, 7), 0);
        due.is("station(0, 10): sent all the same", x.station(0, 10), 3);
        x.tick(2);
        due.is("station(1, 7)", x.station(1, 7), 1);
        due.is("station(0, 11)", x.station(0, 11), 1);
        due.is("station(0, 10)", x.station(0, 10), 5);
    }

    private static void twoStations() {
        DualRing x = new DualRing(2);
        x.cable(0, false);
        due.is("ring(0): the row is 1 0", x.ring(0), 1);
        due.is("ring(1)", x.ring(1), 1);
        x.tick(5);
        due.is("state(0): from 1, the first, the hop takes 1", x.state(0), 3);
        x.tick(2);
        due.is("state(1): from 0, the last, it takes 2", x.state(1), 2);
        x.tick(1);
        due.is("state(1)", x.state(1), 3);
        x.cable(1, false);
        due.is("ring(0)", x.ring(0), 0);
        due.is("ring(1)", x.ring(1), 1);
        x.cable(0, true);
        due.is("ring(1): the row is 0 1", x.ring(1), 0);
    }
}
