import java.lang.management.ManagementFactory;
import java.lang.reflect.Constructor;
import java.lang.reflect.Field;
import java.lang.reflect.Method;
import java.lang.reflect.Modifier;
import java.util.TreeSet;

/** The document's face and nothing else is visible, and no call makes an object. */
public final class FaceTest {
    private static final Due due = new Due();

    public static void main(String[] args) {
        onlyTheFaceIsVisible();
        callsMakeNoObjects();
        due.end();
    }

    private static void onlyTheFaceIsVisible() {
        TreeSet<String> visible = new TreeSet<>();
        TreeSet<String> hiddenNames = new TreeSet<>();
        TreeSet<String> publicNames = new TreeSet<>();
        for (Method m : DualRing.class.getDeclaredMethods()) {
            if (Modifier.isPrivate(m.getModifiers())) {
                hiddenNames.add(m.getName());
            } else {
                visible.add(m.toString());
                publicNames.add(m.getName());
            }
        }
        for (Constructor<?> c : DualRing.class.getDeclaredConstructors()) {
            visible.add(c.toString());
        }
        for (Field f : DualRing.class.getDeclaredFields()) {
            due.yes(f + " is private", Modifier.isPrivate(f.getModifiers()));
        }
        String[] face = {
            "public DualRing(int)",
            "public boolean DualRing.bid(int,int)",
            "public boolean DualRing.allot(int,int)",
            "public boolean DualRing.send(int,int,int,int)",
            "public boolean DualRing.cable(int,boolean)",
            "public boolean DualRing.power(int,boolean)",
            "public boolean DualRing.tick(int)",
            "public int DualRing.ring(int)",
            "public int DualRing.state(int)",
            "public int DualRing.operating(int)",
            "public int DualRing.station(int,int)",
            "public float DualRing.rotation(int)",
            "public double DualRing.share(int)",
            "public int DualRing.longest()",
        };
        for (String member : face) {
            due.yes(member + " is there", visible.remove(member));
        }
        due.is("members beyond the face " + visible, visible.size(), 0);
        hiddenNames.retainAll(publicNames);
        due.is("private methods with a public one's name " + hiddenNames, hiddenNames.size(), 0);
        due.yes("the class is final", Modifier.isFinal(DualRing.class.getModifiers()));
    }

    private static void callsMakeNoObjects() {
        com.sun.management.ThreadMXBean threads =
            (com.sun.management.ThreadMXBean) ManagementFactory.getThreadMXBean();
        DualRing[] all = new DualRing[50];
        for (int i = 0; i < all.length; i++) {
            all[i] = new DualRing(6);
        }
        callEverything(new DualRing(6));
        long id = Thread.currentThread().getId();
        long before = threads.getThreadAllocatedBytes(id);
        for (DualRing x : all) {
            // Ten rounds are 480 calls, and an object is used for at most 512.
            for (int i = 0; i < 10; i++) {
                callEverything(x);
            }
        }
        long made = threads.getThreadAllocatedBytes(id) - before;
        // One object in each round would be at least 8,000 bytes; the measuring itself makes a few.
        due.yes("objects made by the calls: " + made + " bytes", made < 4000);
    }

    private static void callEverything(DualRing x) {
        x.bid(1, 9);
        x.allot(1, 5);
        x.send(1, 2, 3, 3);
        x.send(2, 1, 3, 1);
        x.cable(1, false);
        x.tick(20);
        x.power(4, false);
        x.tick(20);
        x.power(4, true);
        x.cable(1, true);
        x.tick(30);
        for (int s = 0; s < 6; s++) {
            x.ring(s);
            x.state(s);
            x.operating(s);
            x.station(s, s);
            x.rotation(s);
            x.share(s);
        }
        x.longest();
    }
}
