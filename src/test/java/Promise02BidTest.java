/** Promise 2: bids, who wins with them, and when they count. */
public final class Promise02BidTest {
    private static final Due due = new Due();

    public static void main(String[] args) {
        takesFourToSixty();
        countsWhenTheRingClaimsNext();
        leastBidWins();
        highestNumberOfSeveralWins();
        highestNumberWinsInAWrappedRow();
        due.end();
    }

    private static void takesFourToSixty() {
        DualRing x = new DualRing(2);
        due.yes("bid(0, 4)", x.bid(0, 4));
        due.yes("bid(0, 60)", x.bid(0, 60));
        due.yes("bid(1, 60)", x.bid(1, 60));
        due.no("bid(0, 3)", x.bid(0, 3));
        due.no("bid(0, 61)", x.bid(0, 61));
        due.no("bid(0, 0)", x.bid(0, 0));
        due.no("bid(1, -20)", x.bid(1, -20));
        due.no("bid(1, MIN)", x.bid(1, Integer.MIN_VALUE));
        due.no("bid(1, MAX)", x.bid(1, Integer.MAX_VALUE));
        due.no("bid(2, 20)", x.bid(2, 20));
        due.no("bid(-1, 20)", x.bid(-1, 20));
        due.no("bid(MIN, 20)", x.bid(Integer.MIN_VALUE, 20));
        due.no("bid(MAX, 20)", x.bid(Integer.MAX_VALUE, 20));
        x.tick(4);
        due.is("operating(0): the refused bids changed nothing", x.operating(0), 60);
    }

    private static void countsWhenTheRingClaimsNext() {
        DualRing x = new DualRing(3);
        x.tick(5);
        due.yes("bid(1, 12) while the ring claims", x.bid(1, 12));
        x.tick(1);
        due.is("operating(0)", x.operating(0), 12);
        due.yes("bid(2, 7) while it operates", x.bid(2, 7));
        x.tick(10);
        due.is("operating(0), later", x.operating(0), 12);
        x.cable(2, false);
        x.tick(6);
        due.is("operating(0) after the next claim", x.operating(0), 7);

        x.power(1, false);
        due.yes("bid(1, 5) of a station that is off", x.bid(1, 5));
        x.tick(2);
        due.is("operating(2): only its own bid counts for a lone station", x.operating(2), 7);
        due.is("operating(0): only its own bid counts for a lone station", x.operating(0), 20);
        x.power(1, true);
        x.tick(6);
        due.is("operating(0): it is on again", x.operating(0), 5);
    }

    private static void leastBidWins() {
        DualRing x = new DualRing(4);
        x.bid(1, 19);
        x.tick(9);
        due.is("state(2): the token left 1", x.state(2), 3);
        due.is("station(2, 6)", x.station(2, 6), 1);
    }

    private static void highestNumberOfSeveralWins() {
        DualRing x = new DualRing(5);
        x.bid(0, 9);
        x.bid(2, 9);
        x.bid(4, 10);
        x.tick(11);
        due.is("operating(4)", x.operating(4), 9);
        due.is("state(3): the token left 2", x.state(3), 3);
    }

    private static void highestNumberWinsInAWrappedRow() {
        DualRing x = new DualRing(4);
        x.cable(1, false);
        due.is("ring(1): the row is 2 3 0 1", x.ring(1), 2);
        x.tick(9);
        due.is("state(0): the token left 3, which stands before the last", x.state(0), 3);
        due.is("station(0, 6)", x.station(0, 6), 3);
    }
}
