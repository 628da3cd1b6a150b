/** Promise 3: the first n bytes come to the text; NONE beyond 20 and beyond 1500. */
public final class P03EndTest {
    public static void main(String[] args) {
        counts();
        refuses();
        fills();
        Works.finish();
    }

    private static void counts() {
        Works works = new Works();
        works.x.feed(0x31323334, 0, 0, 0, 0);
        Works.due("end(2)", works.x.end(2), 2);
        works.x.feed(0x35363738, 0, 0, 0, 0);
        Works.due("end(1)", works.x.end(1), 3);
        works.read();
        works.start();
        works.run(0);
        Works.due("the number", works.x.state(1), 125);
        Works.due("end(0) behind read()", works.x.end(0), 0);
    }

    private static void refuses() {
        Works works = new Works();
        int[] amounts = {-1, 21, Integer.MIN_VALUE, Integer.MAX_VALUE};
        for (int n : amounts) {
            Works.due("end(" + n + ")", works.x.end(n), -1);
        }
        Works.due("nothing came", works.x.end(0), 0);
        Works.due("end(20)", works.x.end(20), 20);
    }

    private static void fills() {
        Works works = new Works();
        works.put(Works.times(1490, " "));
        Works.due("1490", works.x.end(0), 1490);
        works.x.feed(0x20202037, 0, 0, 0, 0);
        Works.due("end(11)", works.x.end(11), -1);
        Works.due("end(2147483647)", works.x.end(Integer.MAX_VALUE), -1);
        Works.due("end(4)", works.x.end(4), 1494);
        works.x.feed(0x20202020, 0x20202020, 0, 0, 0);
        Works.due("end(7)", works.x.end(7), -1);
        Works.due("end(6)", works.x.end(6), 1500);
        Works.due("end(1)", works.x.end(1), -1);
        Works.due("end(0)", works.x.end(0), 1500);
        Works.due("read()", works.read(), 1);
        Works.due("end(0) behind read()", works.x.end(0), 0);
    }
}
