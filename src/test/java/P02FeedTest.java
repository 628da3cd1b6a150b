/** Promise 2: twenty bytes are ready, the highest of each first, and 0 behind each end(). */
public final class P02FeedTest {
    private static final int TWO_SPACES_AND_FORTY_TWO = 0x20203432;
    private static final int SPACES = 0x20202020;

    public static void main(String[] args) {
        order();
        latestFeedCounts();
        zeroAtFirst();
        zeroBehindEnd();
        keptBehindRefusedEnd();
        Works.finish();
    }

    private static void order() {
        Works works = new Works();
        works.x.feed(0x31202b20, 0x32202a20, 0x33202d20, 0x34202a20, 0x35202020);
        Works.due("end(20)", works.x.end(20), 20);
        Works.due("read()", works.read(), 9);
        works.start();
        works.run(0);
        Works.due("1 + 2 * 3 - 4 * 5", works.x.state(1), -13);
    }

    private static void latestFeedCounts() {
        Works works = new Works();
        works.x.feed(-1, -1, -1, -1, -1);
        works.x.feed(TWO_SPACES_AND_FORTY_TWO, SPACES, SPACES, SPACES, SPACES);
        works.x.end(20);
        Works.due("read()", works.read(), 1);
    }

    private static void zeroAtFirst() {
        Works works = new Works();
        Works.due("end(3)", works.x.end(3), 3);
        Works.due("read() of zeros", works.read(), Works.THROWS_ARGUMENT);
        Works.due("fault(0)", works.x.fault(0), 2);
        Works.due("fault(1)", works.x.fault(1), 0);
    }

    private static void zeroBehindEnd() {
        Works works = new Works();
        works.x.feed(TWO_SPACES_AND_FORTY_TWO, SPACES, SPACES, SPACES, SPACES);
        works.x.end(8);
        Works.due("a second end(1)", works.x.end(1), 9);
        works.read();
        Works.due("fault(0)", works.x.fault(0), 2);
        Works.due("fault(1)", works.x.fault(1), 8);
        works.x.feed(TWO_SPACES_AND_FORTY_TWO, SPACES, SPACES, SPACES, SPACES);
        Works.due("end(0)", works.x.end(0), 0);
        Works.due("end(4) behind end(0)", works.x.end(4), 4);
        works.read();
        Works.due("fault(0) behind end(0)", works.x.fault(0), 2);
        Works.due("fault(1) behind end(0)", works.x.fault(1), 0);
    }

    private static void keptBehindRefusedEnd() {
        Works works = new Works();
        works.x.feed(TWO_SPACES_AND_FORTY_TWO, SPACES, SPACES, SPACES, SPACES);
        Works.due("end(21)", works.x.end(21), -1);
        Works.due("end(-1)", works.x.end(-1), -1);
        Works.due("end(4)", works.x.end(4), 4);
        Works.due("read()", works.read(), 1);
    }
}
