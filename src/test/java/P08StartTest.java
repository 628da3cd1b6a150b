/** Promise 8: the program begins, and begins anew. */
public final class P08StartTest {
    private static final String DOWN = "rec f (x : int) : int = if x = 0 then 5 else f (x - 1) in f 3";

    public static void main(String[] args) {
        withoutAProgram();
        begins();
        beginsAnew();
        beginsAnewBehindEachEnd();
        continuationsAreNew();
        manyTimes();
        Works.finish();
    }

    private static void withoutAProgram() {
        Works none = new Works();
        Works.due("start() without a program", none.start(), Works.THROWS_STATE);
        none.isAt("refused", 0, 0, 0, 0, 0, -1);
        none.put("1");
        Works.due("start() ahead of read()", none.start(), Works.THROWS_STATE);
        Works.due("read()", none.read(), 1);
        Works.due("start()", none.start(), 0);
        none.put("1 +");
        none.read();
        Works.due("start() behind a fault", none.start(), Works.THROWS_STATE);
        none.isAt("refused behind a fault", 0, 0, 0, 0, 0, -1);
        Works.due("run(0) behind a refused start()", none.run(0), Works.THROWS_STATE);
    }

    /** Nothing has been worked by start() itself. */
    private static void begins() {
        String[] texts = {"1", "fn (x : int) -> x", "handle 1 with return x -> x end",
            "effect E : int -> int; E ! 1", DOWN};
        for (String text : texts) {
            Works works = Works.begun(text);
            works.isAt("begun " + text, 1, 0, 0, 0, 0, -1);
        }
    }

    private static void beginsAnew() {
        Works works = Works.begun(DOWN);
        works.isAt("begun", 1, 0, 0, 0, 0, -1);
        works.run(2);
        works.isAt("behind two calls", 1, 0, 2, 1, 2, -1);
        Works.due("start()", works.start(), 0);
        works.isAt("begun anew", 1, 0, 0, 0, 0, -1);
        Works.due("start()", works.start(), 0);
        works.isAt("begun anew at once", 1, 0, 0, 0, 0, -1);
        works.run(2000);
        works.isAt("done", 2, 5, 4, 1, 0, -1);
        works.start();
        works.isAt("begun behind its end", 1, 0, 0, 0, 0, -1);
        works.run(2000);
        works.isAt("done again", 2, 5, 4, 1, 0, -1);
    }

    private static void beginsAnewBehindEachEnd() {
        String[] texts = {"true",
            "effect E : unit -> int; handle E ! () with return x -> x | E u k -> k 1 + k 2 end",
            "effect D : int -> int; effect E : unit -> int; E ! ()",
            "rec f (x : int) : int = if x = 0 then 0 else let g = fn (y : int) -> y in let h = fn (y : int) -> y in "
                + "let i = fn (y : int) -> y in f (x - 1) in f 390",
            "rec f (x : int) : int = 1 + f x in f 1"};
        for (int i = 0; i < texts.length; i++) {
            Works works = Works.begun(texts[i]);
            int first = works.run(2000);
            Works.due("state(0)", works.x.state(0), i + 2);
            int[] told = new int[6];
            for (int what = 0; what < 6; what++) {
                told[what] = works.x.state(what);
            }
            works.start();
            works.isAt("begun anew", 1, 0, 0, 0, 0, -1);
            Works.due("run(2000) again", works.run(2000), first);
            works.isAt("ended again", told[0], told[1], told[2], told[3], told[4], told[5]);
        }
    }

    /** What was gone on with before is another continuation than that of the new run. */
    private static void continuationsAreNew() {
        Works works = Works.begun("effect E : unit -> int; handle E ! () with return x -> x | E u k -> k 4 end");
        for (int i = 0; i < 3; i++) {
            Works.due("run(2)", works.run(2), 2);
            works.isAt("gone on", 2, 4, 2, 3, 0, -1);
            works.start();
            Works.due("run(1)", works.run(1), 1);
            works.start();
        }
    }

    private static void manyTimes() {
        Works works = Works.begun("rec f (x : int) : int = 1 + f x in f 1");
        for (int i = 0; i < 60; i++) {
            Works.due("run(2000)", works.run(2000), 401);
            works.isAt("deep", 6, 0, 401, 1, 400, -1);
            works.start();
        }
    }
}
