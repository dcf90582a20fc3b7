/** Promise 13: the share of all ticks that a station has sent. */
public final class Promise13ShareTest {
    private static final Due due = new Due();

    public static void main(String[] args) {
        DualRing x = new DualRing(2);
        due.real("share(0) before the first tick", x.share(0), 0.0);
        x.tick(0);
        due.real("share(0) after a refused tick", x.share(0), 0.0);
        x.send(0, 1, 3, 2);
        x.send(0, 1, 5, 2);
        x.tick(8);
        due.real("share(0): a frame counts when it is done", x.share(0), 0.0);
        x.tick(1);
        due.real("share(0)", x.share(0), 3.0 / 9.0);
        x.tick(1);
        due.real("share(0)", x.share(0), 3.0 / 10.0);
        x.tick(101);
        due.real("share(0): a refused tick is none", x.share(0), 3.0 / 10.0);
        x.power(0, false);
        x.tick(13);
        due.real("share(0): a lost frame does not count", x.share(0), 3.0 / 23.0);
        due.real("share(1)", x.share(1), 0.0);
        x.send(1, 0, 7, 2);
        x.tick(20);
        due.real("share(1): a frame that is done counts, though nobody has it", x.share(1), 7.0 / 43.0);
        int[] none = {-1, 2, Integer.MIN_VALUE, Integer.MAX_VALUE};
        for (int s : none) {
            due.real("share(" + s + ")", x.share(s), 0.0);
        }
        due.end();
    }
}
