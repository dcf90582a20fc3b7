/** Promise 6: stations go on and off. */
public final class Promise06PowerTest {
    private static final Due due = new Due();

    public static void main(String[] args) {
        refusesWhatIsNoneOrIsSo();
        ringWithoutAStationIsWrapped();
        queuesBecomeEmptyAndTheRestStays();
        frameBeingSentIsLostOnce();
        senderStaysButItsRingChanges();
        ringsThatDoNotChangeGoOn();
        allOffAndOnAgain();
        due.end();
    }

    private static void refusesWhatIsNoneOrIsSo() {
        DualRing x = new DualRing(3);
        x.tick(6);
        due.no("power(0, true)", x.power(0, true));
        due.no("power(3, false)", x.power(3, false));
        due.no("power(-1, false)", x.power(-1, false));
        due.no("power(MIN, true)", x.power(Integer.MIN_VALUE, true));
        due.no("power(MAX, false)", x.power(Integer.MAX_VALUE, false));
        due.is("state(0): nothing changed", x.state(0), 2);
        due.yes("power(1, false)", x.power(1, false));
        due.no("power(1, false) again", x.power(1, false));
        x.send(1, 0, 1, 3);
        due.no("power(1, false) once more", x.power(1, false));
        due.is("station(1, 4): a refused call changes nothing", x.station(1, 4), 1);
        due.yes("power(1, true)", x.power(1, true));
        due.no("power(1, true) again", x.power(1, true));
    }

    private static void ringWithoutAStationIsWrapped() {
        DualRing x = new DualRing(4);
        x.tick(8);
        due.yes("power(1, false)", x.power(1, false));
        due.is("ring(1)", x.ring(1), -1);
        due.is("state(1)", x.state(1), 0);
        due.is("operating(1)", x.operating(1), 0);
        due.is("ring(0): the row is 2 3 0", x.ring(0), 2);
        due.is("state(2)", x.state(2), 1);
        x.tick(5);
        due.is("state(2): it claims 2 * 3 ticks", x.state(2), 1);
        x.tick(1);
        due.is("state(2)", x.state(2), 2);
        x.tick(3);
        due.is("state(2): from 3 to 0, then on the hop of 3", x.state(2), 2);
        x.tick(2);
        due.is("state(2)", x.state(2), 3);
        due.is("station(2, 6)", x.station(2, 6), 0);
        x.power(1, true);
        due.is("ring(3): closed again", x.ring(3), 0);
        due.is("state(1)", x.state(1), 1);
        x.tick(9);
        due.is("state(0): from 3 to 0", x.state(0), 3);
    }

    private static void queuesBecomeEmptyAndTheRestStays() {
        DualRing x = new DualRing(2);
        x.bid(0, 30);
        x.bid(1, 24);
        x.allot(0, 7);
        x.send(1, 0, 2, 2);
        x.send(0, 1, 3, 2);
        x.tick(20);
        due.is("station(0, 7)", x.station(0, 7), 1);
        due.is("station(0, 10)", x.station(0, 10), 3);
        x.send(0, 1, 10, 3);
        x.send(0, 1, 1, 0);
        x.send(0, 1, 1, 2);
        int[] before = new int[12];
        for (int what = 0; what < 12; what++) {
            before[what] = x.station(0, what);
        }
        float rotation = x.rotation(0);
        due.is("state(0): it does not send", x.state(0) == 4 ? 1 : 0, 0);
        x.power(0, false);
        before[4] = 0;
        before[5] = 0;
        for (int what = 0; what < 12; what++) {
            due.is("station(0, " + what + ")", x.station(0, what), before[what]);
        }
        due.real("rotation(0)", x.rotation(0), rotation);
        due.real("share(0)", x.share(0), 3.0 / 20.0);
        x.tick(2);
        due.is("station(0, 0): nothing happens at a station that is off", x.station(0, 0), before[0]);
        x.power(1, false);
        x.power(0, true);
        x.tick(2);
        due.is("operating(0): the bid stays", x.operating(0), 30);
        x.tick(1);
        due.is("station(0, 3): the allotment stays", x.station(0, 3), 7);
    }

    private static void frameBeingSentIsLostOnce() {
        DualRing x = new DualRing(2);
        x.send(0, 1, 5, 2);
        x.send(0, 1, 5, 2);
        x.send(0, 1, 5, 3);
        x.tick(8);
        due.is("state(0)", x.state(0), 4);
        x.power(0, false);
        due.is("station(0, 4)", x.station(0, 4), 0);
        due.is("station(0, 5)", x.station(0, 5), 0);
        due.is("station(0, 11): the frames that wait are not lost", x.station(0, 11), 1);
        due.is("station(0, 10)", x.station(0, 10), 0);
        due.is("state(1)", x.state(1), 1);
        x.tick(20);
        due.is("station(1, 7)", x.station(1, 7), 0);
        due.is("station(0, 11)", x.station(0, 11), 1);
    }

    private static void senderStaysButItsRingChanges() {
        DualRing x = new DualRing(4);
        x.send(0, 1, 5, 2);
        x.send(0, 2, 5, 2);
        x.tick(11);
        due.is("state(0)", x.state(0), 4);
        x.power(3, false);
        due.is("station(0, 5): one is taken out", x.station(0, 5), 1);
        due.is("station(0, 11)", x.station(0, 11), 1);
        due.is("station(3, 11)", x.station(3, 11), 0);
    }

    private static void ringsThatDoNotChangeGoOn() {
        DualRing x = new DualRing(6);
        x.cable(2, false);
        x.cable(5, false);
        x.tick(8);
        due.is("operating(0)", x.operating(0), 20);
        x.power(4, false);
        due.is("operating(0): its ring goes on", x.operating(0), 20);
        due.is("state(3)", x.state(3), 1);
        due.is("ring(5)", x.ring(5), 5);
        x.tick(2);
        due.is("operating(3)", x.operating(3), 20);
        x.power(5, false);
        due.is("operating(3): its ring goes on", x.operating(3), 20);
        x.power(5, true);
        due.is("operating(3)", x.operating(3), 20);
        due.is("state(5): a ring that was not there claims", x.state(5), 1);
        due.is("operating(0)", x.operating(0), 20);
    }

    private static void allOffAndOnAgain() {
        DualRing x = new DualRing(2);
        x.power(0, false);
        x.power(1, false);
        due.is("ring(0)", x.ring(0), -1);
        due.is("ring(1)", x.ring(1), -1);
        due.yes("tick(100)", x.tick(100));
        x.power(1, true);
        due.is("ring(1)", x.ring(1), 1);
        x.tick(1);
        x.power(0, true);
        due.is("ring(1): closed", x.ring(1), 0);
        x.tick(3);
        due.is("state(1)", x.state(1), 1);
        x.tick(1);
        due.is("state(1)", x.state(1), 2);
    }
}
