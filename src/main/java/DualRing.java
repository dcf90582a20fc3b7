/**
 * Stations on a double ring that wraps where it is broken: who claims the ring, the token with its
 * timers, the frames of each station, and what each station learns of the one before it.
 *
 * <p>All objects are made by the constructor; no call makes another one.
 */
public final class DualRing {
    private static final int FEWEST_STATIONS = 2;
    private static final int MOST_STATIONS = 6;
    private static final int USUAL_STATIONS = 4;
    private static final int LEAST_BID = 4;
    private static final int GREATEST_BID = 60;
    private static final int BID_AT_FIRST = 20;
    private static final int GREATEST_ALLOTMENT = 20;
    private static final int GREATEST_LENGTH = 10;
    private static final int SYNCHRONOUS = 3;
    private static final int QUEUE_ROOM = 5;
    private static final int MOST_TICKS = 100;
    private static final int LATE_TOO_OFTEN = 2;
    private static final int NONE = -1;

    private static final int STATE_OFF = 0;
    private static final int STATE_CLAIMS = 1;
    private static final int STATE_TOKEN_ELSEWHERE = 2;
    private static final int STATE_TOKEN_HERE = 3;
    private static final int STATE_SENDS = 4;

    private final int count;
    private final Station[] stations;
    private final boolean[] wholeCables;
    /** The ring that begins with station f stands at f: that keeps the rings in the order of their ticks. */
    private final Ring[] rings;
    private int ticksSoFar;
    private int longestSince;

    public DualRing(int n) {
        count = n >= FEWEST_STATIONS && n <= MOST_STATIONS ? n : USUAL_STATIONS;
        stations = new Station[count];
        wholeCables = new boolean[count];
        rings = new Ring[count];
        for (int s = 0; s < count; s++) {
            stations[s] = new Station();
            wholeCables[s] = true;
            rings[s] = new Ring(s);
        }
        findRings();
    }

    public boolean bid(int s, int t) {
        if (!isStation(s) || t < LEAST_BID || t > GREATEST_BID) {
            return false;
        }
        stations[s].bid = t;
        return true;
    }

    public boolean allot(int s, int a) {
        if (!isStation(s) || a < 0 || a > GREATEST_ALLOTMENT) {
            return false;
        }
        stations[s].allotment = a;
        return true;
    }

    public boolean send(int s, int target, int length, int priority) {
        if (!isStation(s) || !isStation(target) || s == target) {
            return false;
        }
        if (length < 1 || length > GREATEST_LENGTH || priority < 0 || priority > SYNCHRONOUS) {
            return false;
        }
        return stations[s].queueFor(priority == SYNCHRONOUS).addLast(target, length, priority);
    }

    public boolean cable(int s, boolean on) {
        if (!isStation(s) || wholeCables[s] == on) {
            return false;
        }
        wholeCables[s] = on;
        findRings();
        return true;
    }

    public boolean power(int s, boolean on) {
        if (!isStation(s) || stations[s].on == on) {
            return false;
        }
        stations[s].on = on;
        // The rings come first: a frame that is being sent is lost out of its queue, before that is emptied.
        findRings();
        if (!on) {
            stations[s].leaveRing();
        }
        return true;
    }

    public boolean tick(int n) {
        if (n < 1 || n > MOST_TICKS) {
            return false;
        }
        for (int i = 0; i < n; i++) {
            ticksSoFar++;
            for (int first = 0; first < count; first++) {
                passTick(rings[first]);
            }
        }
        return true;
    }

    public int ring(int s) {
        return isStation(s) ? stations[s].firstOfRing : NONE;
    }

    public int state(int s) {
        if (ring(s) == NONE) {
            return STATE_OFF;
        }
        Ring ring = rings[ring(s)];
        if (ring.claims()) {
            return STATE_CLAIMS;
        }
        if (ring.hopLeft > 0 || numberAt(ring, ring.place) != s) {
            return STATE_TOKEN_ELSEWHERE;
        }
        return ring.frameLeft > 0 ? STATE_SENDS : STATE_TOKEN_HERE;
    }

    public int operating(int s) {
        if (ring(s) == NONE) {
            return 0;
        }
        Ring ring = rings[ring(s)];
        return ring.claims() ? 0 : ring.targetTime;
    }

    public int station(int s, int what) {
        if (!isStation(s)) {
            return NONE;
        }
        Station station = stations[s];
        switch (what) {
            case 0: return station.trt;
            case 1: return station.late;
            case 2: return station.tht;
            case 3: return station.allowed;
            case 4: return station.synchronous.size;
            case 5: return station.asynchronous.size;
            case 6: return station.heard;
            case 7: return station.framesReceived;
            case 8: return station.ticksReceived;
            case 9: return station.last;
            case 10: return station.ticksSent;
            case 11: return station.framesLost;
            default: return NONE;
        }
    }

    public float rotation(int s) {
        return isStation(s) ? stations[s].rotation : 0.0f;
    }

    public double share(int s) {
        if (!isStation(s) || ticksSoFar == 0) {
            return 0.0;
        }
        return (double) stations[s].ticksSent / (double) ticksSoFar;
    }

    public int longest() {
        return longestSince;
    }

    private boolean isStation(int s) {
        return s >= 0 && s < count;
    }

    private int numberAfter(int s) {
        return s == count - 1 ? 0 : s + 1;
    }

    private int numberBefore(int s) {
        return s == 0 ? count - 1 : s - 1;
    }

    private int numberAt(Ring ring, int place) {
        int number = ring.first + place;
        return number >= count ? number - count : number;
    }

    private Station stationAt(Ring ring, int place) {
        return stations[numberAt(ring, place)];
    }

    /**
     * A row of stations is told by its first station and its length, so a ring is as before if, at
     * its first station, these and its being closed have not changed.
     */
    private void findRings() {
        boolean unbroken = isUnbroken();
        for (int first = 0; first < count; first++) {
            Ring ring = rings[first];
            boolean closed = unbroken && first == 0;
            int length = unbroken ? (closed ? count : 0) : rowLength(first);
            if (length != ring.length || closed != ring.closed) {
                reform(ring, length, closed);
            }
        }
    }

    private boolean isUnbroken() {
        for (int s = 0; s < count; s++) {
            if (!isJoinedToNext(s)) {
                return false;
            }
        }
        return true;
    }

    private boolean isJoinedToNext(int s) {
        return stations[s].on && wholeCables[s] && stations[numberAfter(s)].on;
    }

    /** How long the row is that begins with this station; 0 if none begins with it. */
    private int rowLength(int first) {
        if (!stations[first].on || isJoinedToNext(numberBefore(first))) {
            return 0;
        }
        int length = 1;
        int end = first;
        while (length < count && isJoinedToNext(end)) {
            end = numberAfter(end);
            length++;
        }
        return length;
    }

    private void reform(Ring ring, int length, boolean closed) {
        // Before the row changes: the token's place still tells who was sending in the old one.
        loseFrameBeingSent(ring);
        ring.length = length;
        ring.closed = closed;
        ring.claimLeft = 2 * length;
        for (int place = 0; place < length; place++) {
            stationAt(ring, place).firstOfRing = ring.first;
        }
    }

    private void claim(Ring ring) {
        loseFrameBeingSent(ring);
        ring.claimLeft = 2 * ring.length;
    }

    private void loseFrameBeingSent(Ring ring) {
        if (ring.frameLeft > 0) {
            Station sender = stationAt(ring, ring.place);
            sender.queueFor(ring.sendsSynchronous).removeFirst();
            sender.framesLost++;
            ring.frameLeft = 0;
        }
    }

    private void passTick(Ring ring) {
        if (ring.claims()) {
            passClaim(ring);
        } else if (ring.length > 0) {
            if (runTimers(ring)) {
                passToken(ring);
            } else {
                claim(ring);
            }
        }
    }

    private void passClaim(Ring ring) {
        ring.claimLeft--;
        if (ring.claimLeft == 0) {
            operate(ring);
        }
    }

    private void operate(Ring ring) {
        int winner = winningPlace(ring);
        for (int place = 0; place < ring.length; place++) {
            stationAt(ring, place).resetTimers();
        }
        ring.targetTime = stationAt(ring, winner).bid;
        ring.place = winner;
        leave(ring);
    }

    private int winningPlace(Ring ring) {
        int winner = 0;
        for (int place = 1; place < ring.length; place++) {
            int bid = stationAt(ring, place).bid;
            int least = stationAt(ring, winner).bid;
            // A wrapped row may go on from the highest number to 0, so places do not tell the higher one.
            boolean isHigher = numberAt(ring, place) > numberAt(ring, winner);
            if (bid < least || bid == least && isHigher) {
                winner = place;
            }
        }
        return winner;
    }

    /** False as soon as a station is late too often; the timers behind it stand still then. */
    private boolean runTimers(Ring ring) {
        for (int place = 0; place < ring.length; place++) {
            Station station = stationAt(ring, place);
            station.runTimer(ring.targetTime);
            if (station.late >= LATE_TOO_OFTEN) {
                return false;
            }
        }
        return true;
    }

    private void passToken(Ring ring) {
        if (ring.hopLeft > 0) {
            ring.hopLeft--;
            if (ring.hopLeft == 0) {
                arrive(ring);
            }
            return;
        }
        if (ring.frameLeft > 0) {
            passFrame(ring);
        }
        if (ring.frameLeft == 0) {
            beginFrameOrLeave(ring);
        }
    }

    private void arrive(Ring ring) {
        Station station = stationAt(ring, ring.place);
        if (station.visited && station.since > longestSince) {
            longestSince = station.since;
        }
        int before = ring.place == 0 ? ring.length - 1 : ring.place - 1;
        station.takeToken(numberAt(ring, before), ring.targetTime);
        ring.begunAsynchronous = false;
    }

    private void leave(Ring ring) {
        boolean fromLast = ring.place == ring.length - 1;
        ring.hopLeft = fromLast && !ring.closed ? ring.length : 1;
        ring.place = fromLast ? 0 : ring.place + 1;
    }

    private void passFrame(Ring ring) {
        Station sender = stationAt(ring, ring.place);
        ring.frameLeft--;
        if (!ring.sendsSynchronous && sender.tht > 0) {
            sender.tht--;
        }
        if (ring.frameLeft == 0) {
            finishFrame(ring, sender);
        }
    }

    private void finishFrame(Ring ring, Station sender) {
        FrameQueue queue = sender.queueFor(ring.sendsSynchronous);
        int length = queue.lengths[0];
        Station target = stations[queue.targets[0]];
        if (target.firstOfRing == ring.first) {
            target.receive(length, numberAt(ring, ring.place));
        } else {
            sender.framesLost++;
        }
        sender.ticksSent += length;
        queue.removeFirst();
    }

    private void beginFrameOrLeave(Ring ring) {
        Station station = stationAt(ring, ring.place);
        if (!ring.begunAsynchronous && station.mayBeginSynchronous()) {
            ring.sendsSynchronous = true;
            ring.frameLeft = station.synchronous.lengths[0];
            station.allowed -= ring.frameLeft;
        } else if (station.mayBeginAsynchronous(ring.targetTime)) {
            ring.sendsSynchronous = false;
            ring.begunAsynchronous = true;
            ring.frameLeft = station.asynchronous.lengths[0];
        } else {
            leave(ring);
        }
    }

    /** Frames in the order in which they came; one that is being sent is still the first. */
    private static final class FrameQueue {
        private final int[] targets = new int[QUEUE_ROOM];
        private final int[] lengths = new int[QUEUE_ROOM];
        private final int[] priorities = new int[QUEUE_ROOM];
        private int size;

        private boolean addLast(int target, int length, int priority) {
            if (size >= QUEUE_ROOM) {
                return false;
            }
            targets[size] = target;
            lengths[size] = length;
            priorities[size] = priority;
            size++;
            return true;
        }

        private void removeFirst() {
            if (size == 0) {
                return;
            }
            size--;
            for (int i = 0; i < size; i++) {
                targets[i] = targets[i + 1];
                lengths[i] = lengths[i + 1];
                priorities[i] = priorities[i + 1];
            }
        }
    }

    private static final class Station {
        private final FrameQueue synchronous = new FrameQueue();
        private final FrameQueue asynchronous = new FrameQueue();
        private boolean on = true;
        private int firstOfRing = NONE;
        private int bid = BID_AT_FIRST;
        private int allotment;
        private int trt;
        private int late;
        private int tht;
        private int allowed;
        private int since;
        /** Whether the token has arrived here since the ring began to operate. */
        private boolean visited;
        private int heard = NONE;
        private float rotation;
        private int framesReceived;
        private int ticksReceived;
        private int last = NONE;
        private int ticksSent;
        private int framesLost;

        private FrameQueue queueFor(boolean isSynchronous) {
            return isSynchronous ? synchronous : asynchronous;
        }

        private void leaveRing() {
            firstOfRing = NONE;
            synchronous.size = 0;
            asynchronous.size = 0;
        }

        private void resetTimers() {
            trt = 0;
            late = 0;
            tht = 0;
            allowed = 0;
            since = 0;
            visited = false;
        }

        private void runTimer(int targetTime) {
            since++;
            trt++;
            if (trt == targetTime) {
                trt = 0;
                late++;
            }
        }

        private void takeToken(int before, int targetTime) {
            heard = before;
            rotation = rotation + ((float) since - rotation) * 0.25f;
            since = 0;
            visited = true;
            if (late == 0) {
                tht = targetTime - trt;
                trt = 0;
            } else {
                tht = 0;
                late = 0;
            }
            allowed = allotment;
        }

        private boolean mayBeginSynchronous() {
            return synchronous.size > 0 && synchronous.lengths[0] <= allowed;
        }

        private boolean mayBeginAsynchronous(int targetTime) {
            if (asynchronous.size == 0 || tht <= 0) {
                return false;
            }
            int threshold = (SYNCHRONOUS - asynchronous.priorities[0]) * targetTime / 4;
            return tht >= threshold;
        }

        private void receive(int length, int sender) {
            framesReceived++;
            ticksReceived += length;
            last = sender;
        }
    }

    /** The row that begins with one station, and its token; of length 0 while no row begins there. */
    private static final class Ring {
        private final int first;
        private int length;
        private boolean closed;
        private int claimLeft;
        private int targetTime;
        /** Where in the row the token is, or to where it is on a hop. */
        private int place;
        private int hopLeft;
        private int frameLeft;
        private boolean sendsSynchronous;
        private boolean begunAsynchronous;

        private Ring(int first) {
            this.first = first;
        }

        private boolean claims() {
            return claimLeft > 0;
        }
    }
}
