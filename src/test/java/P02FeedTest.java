/** Promise 2: twenty bytes are ready, the highest of each first, and 0 behind each end(). */
public final class P02FeedTest {
    private static final int TWO_SPACES_AND_FORTY_TWO = 0x20203432;
    private static final int SPACES = 0x20202020;

    public static void main(String[] args) {
        order();
        eachByteHasItsPlace();
        eachByteIsAnyByte();
        latestFeedCounts();
        zeroAtFirst();
        zeroBehindEnd();
        zeroBehindEndOfNothing();
        keptBehindRefusedEnd();
        keptBehindEndOfAFullText();
        keptBehindRead();
        Works.finish();
    }

    private static void order() {
        Works works = new Works();
        works.x.feed(0x31202b20, 0x32202a20, 0x33202d20, 0x34202a20, 0x35202020);
        Works.due("end(20)", works.x.end(20), 20);
        Works.due("read()", works.read(), 9);
        works.start();
        works.run(0);
        Works.due("1 + 2 * 3 - 4 * 5", works.x.state(1), -13);
    }

    /** A byte that is no word is told at its place, whichever of the twenty it is. */
    private static void eachByteHasItsPlace() {
        for (int place = 0; place < 20; place++) {
            int[] five = {SPACES, SPACES, SPACES, SPACES, SPACES};
            int shift = 24 - 8 * (place % 4);
            five[place / 4] = SPACES & ~(0xff << shift) | '@' << shift;
            Works works = new Works();
            works.x.feed(five[0], five[1], five[2], five[3], five[4]);
            works.x.end(20);
            Works.due("read() with @ as byte " + place, works.read(), Works.THROWS_ARGUMENT);
            Works.due("fault(0) with @ as byte " + place, works.x.fault(0), 2);
            Works.due("fault(1) with @ as byte " + place, works.x.fault(1), place);
        }
    }

    /** A byte with its highest bit set leaves those ahead of it and behind it alone. */
    private static void eachByteIsAnyByte() {
        Works works = new Works();
        works.x.feed(0x31ff2020, -1, Integer.MIN_VALUE, 0, 0);
        works.x.end(20);
        Works.due("read()", works.read(), Works.THROWS_ARGUMENT);
        Works.due("fault(0)", works.x.fault(0), 2);
        Works.due("fault(1)", works.x.fault(1), 1);
        works.x.feed(0x20202031, 0x80000000, 0, 0, 0);
        works.x.end(5);
        works.read();
        Works.due("fault(1) of byte 128", works.x.fault(1), 4);
    }

    private static void latestFeedCounts() {
        Works works = new Works();
        works.x.feed(-1, -1, -1, -1, -1);
        works.x.feed(TWO_SPACES_AND_FORTY_TWO, SPACES, SPACES, SPACES, SPACES);
        Works.due("nothing comes by feed() alone", works.x.end(0), 0);
        works.x.feed(-1, -1, -1, -1, -1);
        works.x.feed(TWO_SPACES_AND_FORTY_TWO, SPACES, SPACES, SPACES, SPACES);
        works.x.end(20);
        Works.due("read()", works.read(), 1);
    }

    private static void zeroAtFirst() {
        Works works = new Works();
        Works.due("end(3)", works.x.end(3), 3);
        Works.due("read() of zeros", works.read(), Works.THROWS_ARGUMENT);
        Works.due("fault(0)", works.x.fault(0), 2);
        Works.due("fault(1)", works.x.fault(1), 0);
    }

    private static void zeroBehindEnd() {
        Works works = new Works();
        works.x.feed(TWO_SPACES_AND_FORTY_TWO, SPACES, SPACES, SPACES, SPACES);
        works.x.end(8);
        Works.due("a second end(1)", works.x.end(1), 9);
        works.read();
        Works.due("fault(0)", works.x.fault(0), 2);
        Works.due("fault(1)", works.x.fault(1), 8);
        for (int place = 0; place < 20; place++) {
            works.put(" ");
            works.x.feed(SPACES, SPACES, SPACES, SPACES, SPACES);
            works.x.end(20);
            works.x.end(place + 1);
            works.read();
            Works.due("fault(0) of zeros", works.x.fault(0), 2);
            Works.due("fault(1) of zeros", works.x.fault(1), 21);
        }
    }

    private static void zeroBehindEndOfNothing() {
        Works works = new Works();
        works.x.feed(TWO_SPACES_AND_FORTY_TWO, SPACES, SPACES, SPACES, SPACES);
        Works.due("end(0)", works.x.end(0), 0);
        Works.due("end(4) behind end(0)", works.x.end(4), 4);
        works.read();
        Works.due("fault(0) behind end(0)", works.x.fault(0), 2);
        Works.due("fault(1) behind end(0)", works.x.fault(1), 0);
    }

    private static void keptBehindRefusedEnd() {
        Works works = new Works();
        works.x.feed(TWO_SPACES_AND_FORTY_TWO, SPACES, SPACES, SPACES, SPACES);
        Works.due("end(21)", works.x.end(21), -1);
        Works.due("end(-1)", works.x.end(-1), -1);
        Works.due("end(4)", works.x.end(4), 4);
        Works.due("read()", works.read(), 1);
    }

    private static void keptBehindEndOfAFullText() {
        Works works = new Works();
        works.put(Works.times(1498, " "));
        works.x.feed(0x37372020, SPACES, SPACES, SPACES, SPACES);
        Works.due("end(3)", works.x.end(3), -1);
        Works.due("end(2)", works.x.end(2), 1500);
        Works.due("read()", works.read(), 1);
        works.start();
        works.run(0);
        Works.due("the number", works.x.state(1), 77);
    }

    /** Only end() takes what is ready. */
    private static void keptBehindRead() {
        Works works = new Works();
        works.put("1");
        works.x.feed(TWO_SPACES_AND_FORTY_TWO, SPACES, SPACES, SPACES, SPACES);
        works.read();
        works.start();
        works.run(0);
        works.x.end(4);
        Works.due("read()", works.read(), 1);
        works.start();
        works.run(0);
        Works.due("the number", works.x.state(1), 42);
    }
}
