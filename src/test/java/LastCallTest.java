/** "An object is used for at most 512 calls after it has been made": the last of them is answered as the first. */
public final class LastCallTest {
    private static final Due due = new Due();

    public static void main(String[] args) {
        due.sentence("An object is used for at most 512 calls after it has been made");
        lastAnswers();
        lastChanges();
        laterCallsEnd();
        due.end();
    }

    /**
     * 511 calls, of which 510 let 100 ticks pass each. With two stations the frame is done with tick 7,
     * and from there on a round takes 4 ticks: on the hop, at 1, on the hop, at 0.
     */
    private static DualRing nearlyUsedUp() {
        DualRing x = new DualRing(2);
        x.send(0, 1, 1, 2);
        for (int i = 0; i < 510; i++) {
            x.tick(100);
        }
        return x;
    }

    private static void lastAnswers() {
        due.is("ring(1)", nearlyUsedUp().ring(1), 0);
        due.is("state(1)", nearlyUsedUp().state(1), (51000 - 7) % 4 == 1 ? 3 : 2);
        due.is("operating(1)", nearlyUsedUp().operating(1), 20);
        due.is("station(0, 10)", nearlyUsedUp().station(0, 10), 1);
        due.is("station(1, 2)", nearlyUsedUp().station(1, 2), 16);
        due.real("rotation(0)", nearlyUsedUp().rotation(0), lastRotation());
        due.real("share(0)", nearlyUsedUp().share(0), 1.0 / 51000.0);
        due.is("longest()", nearlyUsedUp().longest(), 5);
    }

    /** The token came to 0 with ticks 5 and 10, and with every fourth one since. */
    private static float lastRotation() {
        float rotation = 0.25f;
        rotation = rotation + (5.0f - rotation) * 0.25f;
        for (int ticks = 14; ticks <= 51000; ticks += 4) {
            rotation = rotation + (4.0f - rotation) * 0.25f;
        }
        return rotation;
    }

    private static void lastChanges() {
        due.yes("bid(0, 60)", nearlyUsedUp().bid(0, 60));
        due.no("bid(0, 61)", nearlyUsedUp().bid(0, 61));
        due.yes("allot(1, 20)", nearlyUsedUp().allot(1, 20));
        due.no("allot(1, 21)", nearlyUsedUp().allot(1, 21));
        due.yes("send(0, 1, 10, 3)", nearlyUsedUp().send(0, 1, 10, 3));
        due.no("send(0, 1, 11, 3)", nearlyUsedUp().send(0, 1, 11, 3));
        due.yes("cable(1, false)", nearlyUsedUp().cable(1, false));
        due.no("cable(1, true)", nearlyUsedUp().cable(1, true));
        due.yes("power(1, false)", nearlyUsedUp().power(1, false));
        due.no("power(1, true)", nearlyUsedUp().power(1, true));
        due.yes("tick(100)", nearlyUsedUp().tick(100));
        due.no("tick(101)", nearlyUsedUp().tick(101));
    }

    /** What they answer is free, but no call may throw or fail to end. */
    private static void laterCallsEnd() {
        DualRing x = nearlyUsedUp();
        for (int i = 0; i < 2000; i++) {
            x.tick(100);
            x.send(i % 2, 1 - i % 2, 1 + i % 10, i % 4);
            x.cable(i % 3 % 2, i % 5 < 3);
            x.power(i % 2, i % 7 < 5);
            Scenes.look(x, 2);
        }
        due.yes("calls behind the 512th have ended", true);
    }
}
