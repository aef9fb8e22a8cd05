import java.lang.management.ManagementFactory;

/** All calls of a run live in one room: no call makes an object, and a new object stays small. */
public final class RoomTest {
    private static final com.sun.management.ThreadMXBean ROOM =
            (com.sun.management.ThreadMXBean) ManagementFactory.getThreadMXBean();
    private static final String TEXT = "a21 0;a2 1;a2 4;a2 16;b8 2;b32 8;b64 8;b0 96;b128 64;b0 160;";
    private static final int OBJECTS = 50;

    private static int called = 0;

    private static void callAll(BetweenBoth x) {
        for (int i = 0; i < TEXT.length(); i++) {
            called += x.feed(TEXT.charAt(i));
        }
        called += x.parties() + x.fault();
        for (int n = 0; n < 6; n++) {
            called += x.sum(n & 1, n - 3, 1 - n % 3, n % 2, 2 * (n % 2) - 1, n - 4);
        }
        for (int n = 0; n < 7; n++) {
            called += x.seek() + x.seekWeights() + x.between(n % 3) + x.needless() + x.keep(n % 2) + x.undo();
            for (int what = 0; what <= 10; what++) {
                called += x.told(what) + x.about(n % 3, 20 + n, what % 3) + x.step(n, what) + x.sums(what);
            }
            called += x.goBack(n % 2) + x.saysMore(30, 0, 1) + x.sentence(2, 39, 77) + x.resolve(1, 4, 1) + x.holds(3, 9);
            called += x.colour(n) + x.weigh(n, n) + x.weighed(0, 4);
        }
        called += x.clear();
    }

    public static void main(String[] args) {
        callAll(new BetweenBoth());
        BetweenBoth[] all = new BetweenBoth[OBJECTS];
        long ahead = ROOM.getCurrentThreadAllocatedBytes();
        for (int n = 0; n < OBJECTS; n++) {
            all[n] = new BetweenBoth();
        }
        long made = ROOM.getCurrentThreadAllocatedBytes();
        for (int n = 0; n < OBJECTS; n++) {
            callAll(all[n]);
        }
        long behind = ROOM.getCurrentThreadAllocatedBytes();
        long ofOne = (made - ahead) / OBJECTS;
        long ofCalls = (behind - made) / OBJECTS;
        // the measuring itself may leave a few bytes
        boolean wrong = ofOne > 20000 || ofCalls > 100;
        System.out.println("a new object takes " + ofOne + " bytes, all calls on it " + ofCalls + (wrong ? ": too many" : "")
                + (called == 0 ? "." : ""));
        if (wrong) {
            System.exit(1);
        }
    }
}
