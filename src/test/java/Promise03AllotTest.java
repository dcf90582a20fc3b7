/** Promise 3: allotments, and when they count. */
public final class Promise03AllotTest {
    private static final Due due = new Due();

    public static void main(String[] args) {
        takesZeroToTwenty();
        countsWhenTheTokenArrivesNext();
        due.end();
    }

    private static void takesZeroToTwenty() {
        DualRing x = new DualRing(2);
        due.yes("allot(0, 0)", x.allot(0, 0));
        due.yes("allot(0, 20)", x.allot(0, 20));
        due.yes("allot(1, 1)", x.allot(1, 1));
        due.no("allot(0, -1)", x.allot(0, -1));
        due.no("allot(0, 21)", x.allot(0, 21));
        due.no("allot(0, MIN)", x.allot(0, Integer.MIN_VALUE));
        due.no("allot(0, MAX)", x.allot(0, Integer.MAX_VALUE));
        due.no("allot(2, 5)", x.allot(2, 5));
        due.no("allot(-1, 5)", x.allot(-1, 5));
        due.no("allot(MAX, 5)", x.allot(Integer.MAX_VALUE, 5));
        due.no("allot(MIN, 5)", x.allot(Integer.MIN_VALUE, 5));
        x.tick(5);
        due.is("station(0, 3): the refused ones changed nothing", x.station(0, 3), 20);
    }

    private static void countsWhenTheTokenArrivesNext() {
        DualRing x = new DualRing(2);
        x.allot(0, 6);
        due.is("station(0, 3) before the token came", x.station(0, 3), 0);
        x.tick(4);
        due.is("station(0, 3) when the ring operates", x.station(0, 3), 0);
        x.tick(1);
        due.is("station(0, 3) when the token is there", x.station(0, 3), 6);
        x.allot(0, 9);
        due.is("station(0, 3) after allot(0, 9)", x.station(0, 3), 6);
        x.tick(3);
        due.is("station(0, 3) while the token is away", x.station(0, 3), 6);
        x.tick(1);
        due.is("station(0, 3) when it is there again", x.station(0, 3), 9);
    }
}
