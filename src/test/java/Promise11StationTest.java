/** Promise 11: what is told of a station. */
public final class Promise11StationTest {
    private static final Due due = new Due();

    public static void main(String[] args) {
        answersMinusOneForWhatIsNot();
        tellsTheTwelveNumbers();
        lastAndReceivedCountEverySender();
        due.end();
    }

    private static void answersMinusOneForWhatIsNot() {
        DualRing x = new DualRing(2);
        int[] none = {-1, 12, 13, Integer.MIN_VALUE, Integer.MAX_VALUE};
        for (int what : none) {
            due.is("station(0, " + what + ")", x.station(0, what), -1);
        }
        int[] noStation = {-1, 2, Integer.MIN_VALUE, Integer.MAX_VALUE};
        for (int s : noStation) {
            for (int what = 0; what < 12; what++) {
                due.is("station(" + s + ", " + what + ")", x.station(s, what), -1);
            }
        }
    }

    private static void tellsTheTwelveNumbers() {
        DualRing x = new DualRing(3);
        x.allot(0, 9);
        x.send(0, 1, 4, 3);
        x.send(0, 2, 6, 3);
        x.send(0, 2, 5, 2);
        x.send(1, 0, 2, 1);
        x.tick(6);
        told(x, 0, 0, 0, 0, 0, 2, 1, -1, 0, 0, -1, 0, 0);
        x.tick(1);
        told(x, 0, 0, 0, 19, 9, 2, 1, 2, 0, 0, -1, 0, 0);
        x.tick(1);
        told(x, 0, 1, 0, 19, 5, 2, 1, 2, 0, 0, -1, 0, 0);
        x.tick(4);
        told(x, 0, 5, 0, 19, 5, 1, 1, 2, 0, 0, -1, 4, 0);
        told(x, 1, 6, 0, 0, 0, 0, 1, -1, 1, 4, 0, 0, 0);
        x.tick(3);
        told(x, 0, 8, 0, 16, 5, 1, 1, 2, 0, 0, -1, 4, 0);
        x.power(2, false);
        told(x, 0, 8, 0, 16, 5, 1, 0, 2, 0, 0, -1, 4, 1);
        x.tick(4);
        told(x, 0, 0, 0, 0, 0, 1, 0, 2, 0, 0, -1, 4, 1);
        x.tick(2);
        told(x, 0, 0, 0, 18, 9, 1, 0, 1, 0, 0, -1, 4, 1);
        x.tick(7);
        told(x, 0, 7, 0, 18, 3, 0, 0, 1, 0, 0, -1, 10, 2);
        x.tick(1);
        told(x, 1, 0, 0, 10, 0, 0, 1, 0, 1, 4, 0, 0, 0);
        x.tick(3);
        told(x, 0, 11, 0, 18, 3, 0, 0, 1, 1, 2, 1, 10, 2);
        told(x, 1, 3, 0, 8, 0, 0, 0, 0, 1, 4, 0, 2, 0);
    }

    private static void lastAndReceivedCountEverySender() {
        DualRing x = new DualRing(4);
        x.send(0, 2, 3, 2);
        x.send(1, 2, 1, 2);
        x.send(3, 2, 2, 2);
        x.tick(100);
        due.is("station(2, 7)", x.station(2, 7), 3);
        due.is("station(2, 8)", x.station(2, 8), 6);
        due.is("station(2, 9)", x.station(2, 9), 3);
        due.is("station(1, 7)", x.station(1, 7), 0);
        due.is("station(1, 9)", x.station(1, 9), -1);
        due.is("station(0, 10)", x.station(0, 10), 3);
        due.is("station(1, 10)", x.station(1, 10), 1);
        due.is("station(3, 10)", x.station(3, 10), 2);
    }

    private static void told(DualRing x, int s, int... want) {
        for (int what = 0; what < want.length; what++) {
            due.is("station(" + s + ", " + what + ")", x.station(s, what), want[what]);
        }
    }
}
