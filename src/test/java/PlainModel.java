import java.util.ArrayDeque;
import java.util.ArrayList;
import java.util.List;
import java.util.TreeMap;

/**
 * The document's words written down a second time, as literally as possible: rings are texts that
 * tell their rows, and are found anew from nothing whenever something changes.
 */
final class PlainModel {
    private record Frame(int target, int length, int priority) {}

    private static final class Node {
        boolean on = true;
        int bid = 20;
        int allotment;
        int trt;
        int late;
        int tht;
        int allowed;
        int since;
        int heard = -1;
        float rotation;
        int framesReceived;
        int ticksReceived;
        int last = -1;
        int sent;
        int lost;
        boolean arrivedAlready;
        boolean noMoreSynchronous;
        final ArrayDeque<Frame> due = new ArrayDeque<>();
        final ArrayDeque<Frame> spare = new ArrayDeque<>();
    }

    private static final class Loop {
        List<Integer> row;
        boolean closed;
        int claimTicks;
        boolean operates;
        int t;
        int from = -1;
        int hop;
        int at = -1;
        ArrayDeque<Frame> sendingFrom;
        int passed;
    }

    private final int n;
    private final Node[] nodes;
    private final boolean[] cut;
    private TreeMap<String, Loop> loops = new TreeMap<>();
    private int ticks;
    private int longest;

    PlainModel(int n) {
        this.n = n < 2 || n > 6 ? 4 : n;
        nodes = new Node[this.n];
        cut = new boolean[this.n];
        for (int s = 0; s < this.n; s++) {
            nodes[s] = new Node();
        }
        findAnew();
    }

    boolean bid(int s, int t) {
        if (none(s) || t < 4 || t > 60) {
            return false;
        }
        nodes[s].bid = t;
        return true;
    }

    boolean allot(int s, int a) {
        if (none(s) || a < 0 || a > 20) {
            return false;
        }
        nodes[s].allotment = a;
        return true;
    }

    boolean send(int s, int target, int length, int priority) {
        if (none(s) || none(target) || s == target) {
            return false;
        }
        if (length < 1 || length > 10 || priority < 0 || priority > 3) {
            return false;
        }
        ArrayDeque<Frame> queue = priority == 3 ? nodes[s].due : nodes[s].spare;
        if (queue.size() == 5) {
            return false;
        }
        queue.addLast(new Frame(target, length, priority));
        return true;
    }

    boolean cable(int s, boolean on) {
        if (none(s) || cut[s] != on) {
            return false;
        }
        cut[s] = !on;
        findAnew();
        return true;
    }

    boolean power(int s, boolean on) {
        if (none(s) || nodes[s].on == on) {
            return false;
        }
        nodes[s].on = on;
        findAnew();
        if (!on) {
            nodes[s].due.clear();
            nodes[s].spare.clear();
        }
        return true;
    }

    boolean tick(int count) {
        if (count < 1 || count > 100) {
            return false;
        }
        for (int i = 0; i < count; i++) {
            ticks++;
            for (Loop loop : loops.values()) {
                pass(loop);
            }
        }
        return true;
    }

    int ring(int s) {
        Loop loop = loopOf(s);
        return loop == null ? -1 : loop.row.get(0);
    }

    int state(int s) {
        Loop loop = loopOf(s);
        if (loop == null) {
            return 0;
        }
        if (!loop.operates) {
            return 1;
        }
        if (loop.at != s) {
            return 2;
        }
        return loop.sendingFrom == null ? 3 : 4;
    }

    int operating(int s) {
        Loop loop = loopOf(s);
        return loop == null || !loop.operates ? 0 : loop.t;
    }

    int station(int s, int what) {
        if (none(s) || what < 0 || what > 11) {
            return -1;
        }
        Node x = nodes[s];
        int[] told = {
            x.trt, x.late, x.tht, x.allowed, x.due.size(), x.spare.size(),
            x.heard, x.framesReceived, x.ticksReceived, x.last, x.sent, x.lost,
        };
        return told[what];
    }

    float rotation(int s) {
        return none(s) ? 0 : nodes[s].rotation;
    }

    double share(int s) {
        return none(s) || ticks == 0 ? 0 : nodes[s].sent / (double) ticks;
    }

    int longest() {
        return longest;
    }

    private boolean none(int s) {
        return s < 0 || s >= n;
    }

    private Loop loopOf(int s) {
        for (Loop loop : loops.values()) {
            if (loop.row.contains(s)) {
                return loop;
            }
        }
        return null;
    }

    private void findAnew() {
        TreeMap<String, Loop> found = new TreeMap<>();
        for (Loop loop : allLoops()) {
            found.put(loop.row + (loop.closed ? " closed" : " open"), loop);
        }
        for (String key : loops.keySet()) {
            if (found.containsKey(key)) {
                found.put(key, loops.get(key));
            } else {
                loseWhatIsBeingSent(loops.get(key));
            }
        }
        loops = found;
    }

    private List<Loop> allLoops() {
        List<Loop> all = new ArrayList<>();
        boolean whole = true;
        for (int s = 0; s < n; s++) {
            whole = whole && nodes[s].on && !cut[s];
        }
        for (int s = 0; s < n; s++) {
            int before = (s + n - 1) % n;
            boolean joinedBefore = nodes[before].on && !cut[before];
            boolean first = whole ? s == 0 : nodes[s].on && !joinedBefore;
            if (first) {
                all.add(loopFrom(s, whole));
            }
        }
        return all;
    }

    private Loop loopFrom(int first, boolean whole) {
        Loop loop = new Loop();
        loop.closed = whole;
        loop.row = new ArrayList<>();
        loop.row.add(first);
        for (int s = first; loop.row.size() < n && !cut[s] && nodes[(s + 1) % n].on; s = (s + 1) % n) {
            loop.row.add((s + 1) % n);
        }
        return loop;
    }

    private void claim(Loop loop) {
        loseWhatIsBeingSent(loop);
        loop.operates = false;
        loop.claimTicks = 0;
        loop.at = -1;
    }

    private void loseWhatIsBeingSent(Loop loop) {
        if (loop.sendingFrom != null) {
            loop.sendingFrom.removeFirst();
            nodes[loop.at].lost++;
            loop.sendingFrom = null;
        }
    }

    private void pass(Loop loop) {
        if (!loop.operates) {
            loop.claimTicks++;
            if (loop.claimTicks == 2 * loop.row.size()) {
                operate(loop);
            }
            return;
        }
        for (int s : loop.row) {
            nodes[s].since++;
            nodes[s].trt++;
            if (nodes[s].trt == loop.t) {
                nodes[s].trt = 0;
                nodes[s].late++;
            }
            if (nodes[s].late == 2) {
                claim(loop);
                return;
            }
        }
        if (loop.at == -1) {
            loop.hop--;
            if (loop.hop == 0) {
                arrive(loop);
            }
            return;
        }
        passAtStation(loop, nodes[loop.at]);
    }

    private void operate(Loop loop) {
        loop.operates = true;
        loop.t = 61;
        for (int s : loop.row) {
            loop.t = Math.min(loop.t, nodes[s].bid);
        }
        int winner = -1;
        for (int s : loop.row) {
            if (nodes[s].bid == loop.t) {
                winner = Math.max(winner, s);
            }
            nodes[s].trt = 0;
            nodes[s].late = 0;
            nodes[s].tht = 0;
            nodes[s].allowed = 0;
            nodes[s].since = 0;
            nodes[s].arrivedAlready = false;
        }
        leave(loop, winner);
    }

    private void leave(Loop loop, int from) {
        int m = loop.row.size();
        loop.at = -1;
        loop.from = from;
        loop.hop = loop.row.get(m - 1) == from && !loop.closed ? m : 1;
    }

    private void arrive(Loop loop) {
        int place = (loop.row.indexOf(loop.from) + 1) % loop.row.size();
        loop.at = loop.row.get(place);
        Node x = nodes[loop.at];
        x.heard = loop.from;
        if (x.arrivedAlready) {
            longest = Math.max(longest, x.since);
        }
        x.arrivedAlready = true;
        float since = x.since;
        x.rotation = x.rotation + (since - x.rotation) * 0.25f;
        x.since = 0;
        x.tht = x.late == 0 ? loop.t - x.trt : 0;
        x.trt = x.late == 0 ? 0 : x.trt;
        x.late = 0;
        x.allowed = x.allotment;
        x.noMoreSynchronous = false;
    }

    private void passAtStation(Loop loop, Node x) {
        if (loop.sendingFrom != null) {
            Frame frame = loop.sendingFrom.getFirst();
            loop.passed++;
            if (frame.priority != 3) {
                x.tht = Math.max(0, x.tht - 1);
            }
            if (loop.passed < frame.length) {
                return;
            }
            loop.sendingFrom.removeFirst();
            loop.sendingFrom = null;
            done(loop, x, frame);
        }
        Frame due = x.due.peekFirst();
        Frame spare = x.spare.peekFirst();
        loop.passed = 0;
        if (due != null && !x.noMoreSynchronous && due.length <= x.allowed) {
            x.allowed -= due.length;
            loop.sendingFrom = x.due;
        } else if (spare != null && x.tht > 0 && x.tht >= Math.floorDiv((3 - spare.priority) * loop.t, 4)) {
            x.noMoreSynchronous = true;
            loop.sendingFrom = x.spare;
        } else {
            leave(loop, loop.at);
        }
    }

    private void done(Loop loop, Node sender, Frame frame) {
        sender.sent += frame.length;
        if (loop.row.contains(frame.target)) {
            Node target = nodes[frame.target];
            target.framesReceived++;
            target.ticksReceived += frame.length;
            target.last = loop.at;
        } else {
            sender.lost++;
        }
    }
}
