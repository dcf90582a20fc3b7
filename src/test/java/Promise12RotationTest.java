/** Promise 12: what a station knows of how long the token takes. */
public final class Promise12RotationTest {
    private static final Due due = new Due();

    public static void main(String[] args) {
        firstRotations();
        isReckonedInFloats();
        staysWhenTheRingClaims();
        int[] none = {-1, 4, Integer.MIN_VALUE, Integer.MAX_VALUE};
        DualRing x = new DualRing(4);
        x.tick(30);
        for (int s : none) {
            due.real("rotation(" + s + ")", x.rotation(s), 0.0);
        }
        due.end();
    }

    private static void firstRotations() {
        DualRing x = new DualRing(2);
        x.tick(4);
        due.real("rotation(0) before the token came", x.rotation(0), 0.0);
        x.tick(1);
        due.real("rotation(0)", x.rotation(0), 0.25);
        due.real("rotation(1)", x.rotation(1), 0.0);
        x.tick(2);
        due.real("rotation(1)", x.rotation(1), 0.75);
        x.tick(2);
        due.real("rotation(0)", x.rotation(0), 1.1875);
        x.tick(2);
        due.real("rotation(1)", x.rotation(1), 1.5625);
        x.tick(2);
        due.real("rotation(0)", x.rotation(0), 1.890625);
    }

    private static void isReckonedInFloats() {
        DualRing x = new DualRing(3);
        x.tick(7);
        float asFloat = 0.25f;
        double asDouble = 0.25;
        boolean differ = false;
        for (int i = 0; i < 40; i++) {
            x.tick(6);
            asFloat = asFloat + (6.0f - asFloat) * 0.25f;
            asDouble = asDouble + (6.0 - asDouble) * 0.25;
            differ = differ || (double) asFloat != asDouble;
            due.real("rotation(0) after " + (i + 1) + " rounds", x.rotation(0), asFloat);
        }
        due.yes("floats and doubles differ in this run", differ);
    }

    private static void staysWhenTheRingClaims() {
        DualRing x = new DualRing(2);
        x.tick(10);
        x.cable(1, false);
        x.tick(4);
        due.real("rotation(0)", x.rotation(0), 1.1875);
        x.tick(2);
        due.real("rotation(0): only the ticks since it operates count", x.rotation(0), 1.390625);
        x.power(0, false);
        due.real("rotation(0) of a station that is off", x.rotation(0), 1.390625);
    }
}
