/** Promise 14: the longest time between two arrivals of the token at a station. */
public final class Promise14LongestTest {
    private static final Due due = new Due();

    public static void main(String[] args) {
        firstArrivalsDoNotCount();
        loneStationCounts();
        greatestOfAllRingsCounts();
        due.end();
    }

    private static void firstArrivalsDoNotCount() {
        DualRing x = new DualRing(3);
        for (int s = 0; s < 3; s++) {
            x.bid(s, 60);
        }
        x.send(0, 1, 10, 2);
        x.tick(21);
        due.is("state(2): the winner, 15 ticks after it left there", x.state(2), 3);
        due.is("longest()", x.longest(), 0);
        x.tick(1);
        due.is("longest()", x.longest(), 0);
        x.tick(1);
        due.is("longest(): 0 for the second time", x.longest(), 16);
        x.tick(8);
        due.is("longest(): shorter ones since", x.longest(), 16);

        x.send(0, 1, 10, 2);
        x.send(0, 1, 10, 2);
        x.cable(2, false);
        x.tick(6 + 3);
        due.is("state(0)", x.state(0), 3);
        x.tick(24);
        due.is("state(2)", x.state(2), 3);
        due.is("longest(): for each the first time since the ring operates anew", x.longest(), 16);
        x.tick(3);
        due.is("longest()", x.longest(), 16);
        x.tick(1);
        due.is("longest()", x.longest(), 28);
        x.power(0, false);
        x.tick(50);
        due.is("longest() stays", x.longest(), 28);
    }

    private static void loneStationCounts() {
        DualRing x = new DualRing(2);
        x.power(1, false);
        x.tick(3);
        due.is("longest()", x.longest(), 0);
        x.tick(2);
        due.is("longest()", x.longest(), 2);
    }

    private static void greatestOfAllRingsCounts() {
        DualRing x = new DualRing(4);
        x.cable(1, false);
        x.cable(3, false);
        x.send(2, 3, 9, 2);
        x.tick(60);
        due.is("longest(): of a round of 5 and one of 5 + 9", x.longest(), 14);
    }
}
