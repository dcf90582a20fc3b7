/** Promise 10: T of a station's ring. */
public final class Promise10OperatingTest {
    private static final Due due = new Due();

    public static void main(String[] args) {
        DualRing x = new DualRing(4);
        x.bid(0, 33);
        x.bid(1, 44);
        x.bid(2, 55);
        x.bid(3, 11);
        each(x, 0, 0, 0, 0);
        x.tick(7);
        each(x, 0, 0, 0, 0);
        x.tick(1);
        each(x, 11, 11, 11, 11);
        x.tick(50);
        each(x, 11, 11, 11, 11);
        x.power(3, false);
        each(x, 0, 0, 0, 0);
        x.tick(6);
        each(x, 33, 33, 33, 0);
        x.cable(0, false);
        x.tick(2);
        each(x, 33, 0, 0, 0);
        x.tick(2);
        each(x, 33, 44, 44, 0);
        x.power(3, true);
        each(x, 0, 0, 0, 0);
        x.tick(8);
        each(x, 11, 11, 11, 11);
        int[] none = {-1, 4, Integer.MIN_VALUE, Integer.MAX_VALUE};
        for (int s : none) {
            due.is("operating(" + s + ")", x.operating(s), 0);
        }
        due.end();
    }

    private static void each(DualRing x, int... want) {
        for (int s = 0; s < want.length; s++) {
            due.is("operating(" + s + ")", x.operating(s), want[s]);
        }
    }
}
