/** Promise 3: the first n bytes come to the text; NONE beyond 20 and beyond 1500. */
public final class P03EndTest {
    public static void main(String[] args) {
        counts();
        theFirstOnesCome();
        refusedAmounts();
        fullToTheLastByte();
        refusedLeavesAll();
        emptyBehindRead();
        Works.finish();
    }

    private static void counts() {
        Works works = new Works();
        works.x.feed(0x31323334, 0, 0, 0, 0);
        Works.due("end(2)", works.x.end(2), 2);
        works.x.feed(0x35363738, 0, 0, 0, 0);
        Works.due("end(1)", works.x.end(1), 3);
        works.read();
        works.start();
        works.run(0);
        Works.due("the number", works.x.state(1), 125);
    }

    /** Of twenty bytes just the first n come, for each n that may be. */
    private static void theFirstOnesCome() {
        String sum = "1+2+3+4+5+6+7+8+9+10";
        int[] values = {1, 3, 6, 10, 15, 21, 28, 36, 45};
        for (int n = 0; n <= 20; n++) {
            Works works = new Works();
            works.x.feed(0x312b322b, 0x332b342b, 0x352b362b, 0x372b382b, 0x392b3130);
            Works.due("end(" + n + ")", works.x.end(n), n);
            boolean whole = n % 2 == 1 || n == 20;
            int nodes = whole ? Math.min(n, 19) : Works.THROWS_ARGUMENT;
            Works.due("read() of " + sum.substring(0, n), works.read(), nodes);
            if (!whole) {
                Works.due("fault(1) of " + sum.substring(0, n), works.x.fault(1), n);
                continue;
            }
            works.start();
            works.run(0);
            int value = n == 20 ? 55 : n == 19 ? 46 : values[n / 2];
            Works.due(sum.substring(0, n), works.x.state(1), value);
        }
    }

    private static void refusedAmounts() {
        Works works = new Works();
        int[] amounts = {-1, 21, -20, 1500, Integer.MIN_VALUE, Integer.MAX_VALUE};
        for (int n : amounts) {
            Works.due("end(" + n + ")", works.x.end(n), -1);
        }
        Works.due("nothing came", works.x.end(0), 0);
        Works.due("end(20)", works.x.end(20), 20);
        Works.due("end(20)", works.x.end(20), 40);
    }

    private static void fullToTheLastByte() {
        for (int had = 1479; had <= 1500; had++) {
            for (int n = 0; n <= 21; n++) {
                Works works = new Works();
                works.put(Works.times(had, " "));
                int due = n <= 20 && had + n <= 1500 ? had + n : -1;
                Works.due("end(" + n + ") with " + had, works.x.end(n), due);
                Works.due("end(0) then", works.x.end(0), due == -1 ? had : due);
            }
        }
    }

    private static void refusedLeavesAll() {
        Works works = new Works();
        works.put(Works.times(1490, " "));
        works.x.feed(0x20202037, 0, 0, 0, 0);
        Works.due("end(11)", works.x.end(11), -1);
        Works.due("end(2147483647)", works.x.end(Integer.MAX_VALUE), -1);
        Works.due("end(-1490)", works.x.end(-1490), -1);
        Works.due("end(4)", works.x.end(4), 1494);
        works.x.feed(0x20202020, 0x20202020, 0, 0, 0);
        Works.due("end(7)", works.x.end(7), -1);
        Works.due("end(6)", works.x.end(6), 1500);
        Works.due("end(1)", works.x.end(1), -1);
        Works.due("end(0)", works.x.end(0), 1500);
        Works.due("read()", works.read(), 1);
    }

    /** A text counts from 0 again, be it a program or not, and as much as ever comes then. */
    private static void emptyBehindRead() {
        Works works = new Works();
        works.put(Works.times(1499, " ") + "1");
        Works.due("read()", works.read(), 1);
        Works.due("end(0) behind read()", works.x.end(0), 0);
        works.put(Works.times(1499, " ") + "@");
        Works.due("end(0) of a full text", works.x.end(0), 1500);
        Works.due("read()", works.read(), Works.THROWS_ARGUMENT);
        Works.due("fault(1)", works.x.fault(1), 1499);
        Works.due("end(0) behind a fault", works.x.end(0), 0);
        Works.due("end(20) behind a fault", works.x.end(20), 20);
    }
}
