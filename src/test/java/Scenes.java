/** Ways to bring an object to a boundary, and to look at it there. */
final class Scenes {
    private Scenes() {}

    /** All stations bid t. */
    static DualRing ringOf(int n, int t) {
        DualRing x = new DualRing(n);
        for (int s = 0; s < n; s++) {
            x.bid(s, t);
        }
        return x;
    }

    /** Station 0 of two is alone; its ring operates with t after 2 ticks, the token is there after 3. */
    static DualRing lone(int t) {
        DualRing x = ringOf(2, t);
        x.power(1, false);
        return x;
    }

    /** Of six stations the first m are one wrapped row; it operates after 2 * m ticks, and m - 1 wins. */
    static DualRing wrapped(int m) {
        DualRing x = new DualRing(6);
        for (int s = m; s < 6; s++) {
            x.power(s, false);
        }
        if (m == 6) {
            x.cable(5, false);
        }
        return x;
    }

    /** Which station of the row has the token after each of so many ticks; '-' if none has it. */
    static String path(DualRing x, String row, int ticks) {
        StringBuilder path = new StringBuilder();
        for (int i = 0; i < ticks; i++) {
            x.tick(1);
            char at = '-';
            for (int place = 0; place < row.length(); place++) {
                if (x.state(row.charAt(place) - '0') >= 3) {
                    at = row.charAt(place);
                }
            }
            path.append(at);
        }
        return path.toString();
    }

    /** What station(s, first) to station(s, last) answer. */
    static String told(DualRing x, int s, int first, int last) {
        StringBuilder told = new StringBuilder();
        for (int what = first; what <= last; what++) {
            told.append(what == first ? "" : " ").append(x.station(s, what));
        }
        return told.toString();
    }

    /** All that an object of n stations answers; 17 calls for each station and one more. */
    static String look(DualRing x, int n) {
        StringBuilder look = new StringBuilder();
        for (int s = 0; s < n; s++) {
            look.append("station ").append(s).append(": ring ").append(x.ring(s));
            look.append(", state ").append(x.state(s)).append(", operating ").append(x.operating(s));
            look.append(", numbers ").append(told(x, s, 0, 11));
            look.append(", rotation ").append(x.rotation(s));
            look.append(", share ").append(x.share(s)).append("; ");
        }
        return look.append("longest ").append(x.longest()).toString();
    }
}
