/** Promise 1: how many stations a new object has, and that the ring of all of them claims. */
public final class Promise01NewObjectTest {
    private static final Due due = new Due();

    public static void main(String[] args) {
        for (int n = 2; n <= 6; n++) {
            hasStations(n, n);
            claimsTwoTicksAStation(n);
        }
        int[] others = {1, 0, -1, 7, 8, 100, Integer.MIN_VALUE, Integer.MAX_VALUE};
        for (int n : others) {
            hasStations(n, 4);
        }
        everyStationIsAsAtFirst();
        due.end();
    }

    private static void hasStations(int n, int count) {
        DualRing x = new DualRing(n);
        for (int s = 0; s < count; s++) {
            due.is("new " + n + ": ring(" + s + ")", x.ring(s), 0);
            due.is("new " + n + ": state(" + s + ")", x.state(s), 1);
        }
        due.is("new " + n + ": ring(" + count + ")", x.ring(count), -1);
        due.is("new " + n + ": state(" + count + ")", x.state(count), 0);
    }

    private static void claimsTwoTicksAStation(int n) {
        DualRing x = new DualRing(n);
        x.tick(2 * n - 1);
        due.is("new " + n + ": state(0) one tick before", x.state(0), 1);
        due.is("new " + n + ": operating(0) one tick before", x.operating(0), 0);
        x.tick(1);
        due.is("new " + n + ": state(0)", x.state(0), 2);
        due.is("new " + n + ": operating(0), the bid at first", x.operating(0), 20);
        x.tick(1);
        due.is("new " + n + ": the ring is closed, so the hop to 0 takes one tick", x.state(0), 3);
        due.is("new " + n + ": station(0, 6)", x.station(0, 6), n - 1);
    }

    private static void everyStationIsAsAtFirst() {
        int[] first = {0, 0, 0, 0, 0, 0, -1, 0, 0, -1, 0, 0};
        DualRing x = new DualRing(6);
        for (int s = 0; s < 6; s++) {
            for (int what = 0; what < first.length; what++) {
                due.is("station(" + s + ", " + what + ")", x.station(s, what), first[what]);
            }
            due.real("rotation(" + s + ")", x.rotation(s), 0.0);
            due.real("share(" + s + ")", x.share(s), 0.0);
            due.no("power(" + s + ", true)", x.power(s, true));
            due.no("cable(" + s + ", true)", x.cable(s, true));
        }
        due.is("longest()", x.longest(), 0);
    }
}
