/** Promise 4: frames come to the end of the right queue, or are refused. */
public final class Promise04SendTest {
    private static final Due due = new Due();

    public static void main(String[] args) {
        refusesWrongFrames();
        eachQueueTakesFive();
        frameBeingSentStillTakesAPlace();
        framesGoInTheOrderInWhichTheyCame();
        stationThatIsOffTakesFrames();
        due.end();
    }

    private static void refusesWrongFrames() {
        int min = Integer.MIN_VALUE;
        int max = Integer.MAX_VALUE;
        int[][] wrong = {
            {-1, 0, 1, 0}, {3, 0, 1, 0}, {min, 0, 1, 0}, {max, 0, 1, 0},
            {0, -1, 1, 0}, {0, 3, 1, 0}, {0, min, 1, 0}, {0, max, 1, 0},
            {0, 0, 1, 0}, {2, 2, 1, 3}, {-1, -1, 1, 0},
            {0, 1, 0, 0}, {0, 1, 11, 0}, {0, 1, -1, 3}, {0, 1, min, 0}, {0, 1, max, 3},
            {0, 1, 1, -1}, {0, 1, 1, 4}, {0, 1, 1, min}, {0, 1, 1, max},
        };
        DualRing x = new DualRing(3);
        for (int[] f : wrong) {
            String call = "send(" + f[0] + ", " + f[1] + ", " + f[2] + ", " + f[3] + ")";
            due.no(call, x.send(f[0], f[1], f[2], f[3]));
        }
        for (int s = 0; s < 3; s++) {
            due.is("station(" + s + ", 4): none was taken", x.station(s, 4), 0);
            due.is("station(" + s + ", 5): none was taken", x.station(s, 5), 0);
        }
        due.yes("send(0, 1, 1, 0)", x.send(0, 1, 1, 0));
        due.yes("send(0, 2, 10, 2)", x.send(0, 2, 10, 2));
        due.is("station(0, 4)", x.station(0, 4), 0);
        due.is("station(0, 5)", x.station(0, 5), 2);
        due.yes("send(0, 2, 10, 3)", x.send(0, 2, 10, 3));
        due.is("station(0, 4)", x.station(0, 4), 1);
        due.is("station(0, 5)", x.station(0, 5), 2);
    }

    private static void eachQueueTakesFive() {
        DualRing x = new DualRing(2);
        for (int i = 0; i < 5; i++) {
            due.yes("synchronous frame " + i, x.send(0, 1, 1, 3));
        }
        due.no("a sixth synchronous frame", x.send(0, 1, 1, 3));
        for (int i = 0; i < 5; i++) {
            due.yes("asynchronous frame " + i, x.send(0, 1, 1, i % 3));
        }
        due.no("a sixth asynchronous frame", x.send(0, 1, 1, 0));
        due.is("station(0, 4)", x.station(0, 4), 5);
        due.is("station(0, 5)", x.station(0, 5), 5);
        due.is("station(1, 4)", x.station(1, 4), 0);
        due.yes("another station's queue", x.send(1, 0, 1, 3));
    }

    private static void frameBeingSentStillTakesAPlace() {
        DualRing x = new DualRing(2);
        for (int i = 0; i < 5; i++) {
            x.send(0, 1, 2, 2);
        }
        x.tick(7);
        due.is("state(0)", x.state(0), 4);
        due.no("a sixth frame while the first is being sent", x.send(0, 1, 1, 0));
        x.tick(1);
        due.is("station(0, 5) when the first is done", x.station(0, 5), 4);
        due.yes("a frame in its place", x.send(0, 1, 1, 0));
    }

    private static void framesGoInTheOrderInWhichTheyCame() {
        DualRing x = new DualRing(4);
        x.send(0, 1, 2, 2);
        x.send(0, 2, 3, 2);
        x.send(0, 3, 1, 2);
        x.tick(10);
        due.is("state(0): it begins", x.state(0), 4);
        x.tick(2);
        due.is("station(1, 8)", x.station(1, 8), 2);
        due.is("station(2, 8)", x.station(2, 8), 0);
        x.tick(3);
        due.is("station(2, 8)", x.station(2, 8), 3);
        due.is("station(3, 8)", x.station(3, 8), 0);
        x.send(0, 1, 4, 2);
        x.tick(1);
        due.is("station(3, 8)", x.station(3, 8), 1);
        due.is("station(1, 8)", x.station(1, 8), 2);
        x.tick(4);
        due.is("station(1, 8)", x.station(1, 8), 6);
        due.is("station(1, 7)", x.station(1, 7), 2);
    }

    private static void stationThatIsOffTakesFrames() {
        DualRing x = new DualRing(3);
        x.power(0, false);
        due.yes("send(0, 1, 1, 2) of a station that is off", x.send(0, 1, 1, 2));
        due.yes("send(1, 0, 1, 2) to a station that is off", x.send(1, 0, 1, 2));
        due.is("station(0, 5)", x.station(0, 5), 1);
        x.power(0, true);
        due.is("station(0, 5) when it is on again", x.station(0, 5), 1);
        x.tick(9);
        due.is("station(1, 9): it was sent", x.station(1, 9), 0);
    }
}
