import java.util.ArrayList;
import java.util.List;
import java.util.function.Consumer;
import java.util.function.Predicate;

/**
 * "A call that is refused changes nothing." Each call that the document refuses is made on objects in
 * many states; all that they answer then and later is compared with an object without that call.
 */
public final class RefusedCallTest {
    private static final int MIN = Integer.MIN_VALUE;
    private static final int MAX = Integer.MAX_VALUE;

    /** How many ticks go by between the refused call and the comparison. */
    private static final int[] LATER = {0, 1, 2, 4, 7, 13, 29, 100};

    private static final Due due = new Due();

    /** An object whose stations are in these states; the bits of cut and off tell cables and stations. */
    private record Scene(String name, String states, int cut, int off, boolean full, Consumer<DualRing> rest) {
        int count() {
            return states.length();
        }

        DualRing make() {
            DualRing x = new DualRing(count());
            for (int s = 0; s < count(); s++) {
                x.bid(s, 24 + s);
                x.allot(s, 3 + s);
                if (isCut(s)) {
                    x.cable(s, false);
                }
                if (isOff(s)) {
                    x.power(s, false);
                }
            }
            if (full) {
                fillQueues(x, count());
            }
            rest.accept(x);
            return x;
        }

        boolean isCut(int s) {
            return (cut >> s & 1) == 1;
        }

        boolean isOff(int s) {
            return (off >> s & 1) == 1;
        }
    }

    private record Call(String name, Predicate<DualRing> make) {}

    public static void main(String[] args) {
        due.sentence("A call that is refused changes nothing.");
        for (Scene scene : scenes()) {
            due.text(scene.name + ": states", statesOf(scene.make(), scene.count()), scene.states);
            List<Call> calls = refusedCalls(scene);
            if (scene.full) {
                addSendsToFullQueues(calls, scene.count());
            }
            for (Call call : calls) {
                due.no(scene.name + ": " + call.name, call.make.test(scene.make()));
            }
            for (int ticks : LATER) {
                changeNothingLater(scene, calls, ticks);
            }
            changeNothingHidden(scene, calls);
        }
        askingChangesNothing();
        due.end();
    }

    private static List<Scene> scenes() {
        List<Scene> all = new ArrayList<>();
        for (int n = 2; n <= 6; n++) {
            all.add(new Scene("new, of " + n, "1".repeat(n), 0, 0, false, x -> { }));
        }
        all.add(new Scene("it claims", "1111", 0, 0, false, x -> {
            x.send(1, 2, 3, 3);
            x.tick(7);
        }));
        all.add(new Scene("the token is on a long hop", "2222", 8, 0, false, x -> {
            x.bid(3, 20);
            x.tick(8 + 2);
        }));
        all.add(new Scene("the token is at a station", "232", 0, 0, false, x -> {
            x.send(1, 2, 3, 3);
            x.send(1, 2, 3, 2);
            x.tick(7);
        }));
        all.add(new Scene("a station sends", "242", 0, 0, false, x -> {
            x.send(1, 2, 3, 3);
            x.send(1, 0, 4, 1);
            x.tick(9);
        }));
        all.add(new Scene("an asynchronous frame, and a synchronous one waits", "242", 0, 0, false, x -> {
            x.send(1, 2, 6, 2);
            x.tick(9);
            x.send(1, 0, 2, 3);
            x.send(1, 0, 2, 0);
        }));
        all.add(new Scene("stations are late once", "222222", 0, 0, false, x -> {
            x.bid(5, 4);
            x.tick(18);
        }));
        all.add(new Scene("of two rings one claims, in the other a station sends", "112411", 2 + 8, 0, false, x -> {
            x.send(0, 1, 9, 2);
            x.send(3, 2, 5, 3);
            x.tick(7);
        }));
        all.add(new Scene("stations are off", "02202", 4, 1 + 8, false, x -> {
            x.tick(6);
            x.send(3, 1, 2, 2);
            x.send(1, 3, 2, 2);
        }));
        all.add(new Scene("all are off", "00", 0, 3, false, x -> x.tick(3)));
        all.add(new Scene("full queues", "111", 0, 0, true, x -> { }));
        all.add(new Scene("full queues, the first frame is being sent", "242", 0, 0, true, x -> x.tick(8)));
        all.add(new Scene("full queues, parted", "2232", 1 + 4, 0, true, x -> x.tick(5)));
        all.add(new Scene("full queues, off", "101", 0, 2, true, x -> x.tick(1)));
        return all;
    }

    private static String statesOf(DualRing x, int count) {
        StringBuilder states = new StringBuilder();
        for (int s = 0; s < count; s++) {
            states.append(x.state(s));
        }
        return states.toString();
    }

    private static void fillQueues(DualRing x, int count) {
        for (int s = 0; s < count; s++) {
            for (int i = 0; i < 5; i++) {
                x.send(s, (s + 1) % count, 3, 3);
                x.send(s, (s + 1) % count, 3, 2);
            }
        }
    }

    private static List<Call> refusedCalls(Scene scene) {
        List<Call> calls = new ArrayList<>();
        int n = scene.count();
        for (int none : new int[] {MIN, -1, n, 6, MAX}) {
            calls.add(new Call("bid(" + none + ", 9)", x -> x.bid(none, 9)));
            calls.add(new Call("allot(" + none + ", 9)", x -> x.allot(none, 9)));
            calls.add(new Call("send(" + none + ", 0, 1, 2)", x -> x.send(none, 0, 1, 2)));
            calls.add(new Call("send(1, " + none + ", 1, 3)", x -> x.send(1, none, 1, 3)));
            calls.add(new Call("cable(" + none + ", false)", x -> x.cable(none, false)));
            calls.add(new Call("cable(" + none + ", true)", x -> x.cable(none, true)));
            calls.add(new Call("power(" + none + ", false)", x -> x.power(none, false)));
            calls.add(new Call("power(" + none + ", true)", x -> x.power(none, true)));
        }
        for (int s = 0; s < n; s++) {
            addRefusedOfStation(calls, scene, s);
        }
        for (int ticks : new int[] {MIN, -1, 0, 101, MAX}) {
            calls.add(new Call("tick(" + ticks + ")", x -> x.tick(ticks)));
        }
        return calls;
    }

    private static void addRefusedOfStation(List<Call> calls, Scene scene, int s) {
        int target = (s + 1) % scene.count();
        for (int t : new int[] {MIN, 0, 3, 61, MAX}) {
            calls.add(new Call("bid(" + s + ", " + t + ")", x -> x.bid(s, t)));
        }
        for (int a : new int[] {MIN, -1, 21, MAX}) {
            calls.add(new Call("allot(" + s + ", " + a + ")", x -> x.allot(s, a)));
        }
        for (int priority = 2; priority <= 3; priority++) {
            int p = priority;
            calls.add(new Call("send(" + s + ", " + s + ", 1, " + p + ")", x -> x.send(s, s, 1, p)));
            for (int length : new int[] {MIN, 0, 11, MAX}) {
                String name = "send(" + s + ", " + target + ", " + length + ", " + p + ")";
                calls.add(new Call(name, x -> x.send(s, target, length, p)));
            }
        }
        for (int priority : new int[] {MIN, -1, 4, MAX}) {
            String name = "send(" + s + ", " + target + ", 1, " + priority + ")";
            calls.add(new Call(name, x -> x.send(s, target, 1, priority)));
        }
        boolean whole = !scene.isCut(s);
        boolean on = !scene.isOff(s);
        calls.add(new Call("cable(" + s + ", " + whole + ")", x -> x.cable(s, whole)));
        calls.add(new Call("power(" + s + ", " + on + ")", x -> x.power(s, on)));
    }

    private static void addSendsToFullQueues(List<Call> calls, int count) {
        for (int station = 0; station < count; station++) {
            int s = station;
            int target = (s + count - 1) % count;
            for (int priority = 0; priority <= 3; priority++) {
                int p = priority;
                String name = "send(" + s + ", " + target + ", 1, " + p + ") to a full queue";
                calls.add(new Call(name, x -> x.send(s, target, 1, p)));
            }
        }
    }

    private static void changeNothingLater(Scene scene, List<Call> calls, int ticks) {
        String want = lookLater(scene.make(), scene.count(), ticks);
        for (Call call : calls) {
            DualRing x = scene.make();
            call.make.test(x);
            String what = scene.name + ": " + call.name + ", " + ticks + " ticks later";
            due.text(what, lookLater(x, scene.count(), ticks), want);
        }
    }

    private static String lookLater(DualRing x, int count, int ticks) {
        if (ticks > 0) {
            x.tick(ticks);
        }
        return Scenes.look(x, count);
    }

    private static void changeNothingHidden(Scene scene, List<Call> calls) {
        String want = lookAtHidden(scene.make(), scene.count());
        for (Call call : calls) {
            DualRing x = scene.make();
            call.make.test(x);
            due.text(scene.name + ": " + call.name + ", what is hidden", lookAtHidden(x, scene.count()), want);
        }
    }

    /** Which cables are whole and which stations on, and the bid and the allotment of each: all are parted for that. */
    private static String lookAtHidden(DualRing x, int count) {
        StringBuilder look = new StringBuilder();
        for (int s = 0; s < count; s++) {
            look.append(x.cable(s, false) ? "whole " : "cut ");
            look.append(x.power(s, true) ? "off " : "on ");
        }
        x.tick(3);
        for (int s = 0; s < count; s++) {
            look.append(x.operating(s)).append(' ').append(x.station(s, 3)).append(' ');
        }
        return look.append(Scenes.look(x, count)).toString();
    }

    /** Answers are no refusals, but none of them changes anything, either. */
    private static void askingChangesNothing() {
        List<Call> calls = new ArrayList<>();
        calls.add(new Call("all answers", RefusedCallTest::askAll));
        for (Scene scene : scenes()) {
            for (int ticks : LATER) {
                changeNothingLater(scene, calls, ticks);
            }
            changeNothingHidden(scene, calls);
        }
    }

    private static boolean askAll(DualRing x) {
        for (int s = -1; s <= 6; s++) {
            x.ring(s);
            x.state(s);
            x.operating(s);
            x.rotation(s);
            x.share(s);
            for (int what = -1; what <= 12; what++) {
                x.station(s, what);
            }
        }
        x.longest();
        return false;
    }
}
