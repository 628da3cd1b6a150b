/** Promise 8: the program begins, and begins anew. */
public final class P08StartTest {
    public static void main(String[] args) {
        Works none = new Works();
        Works.due("start() without a program", none.start(), Works.THROWS_STATE);
        beginsAnew();
        beginsAnewBehindEachEnd();
        Works.finish();
    }

    private static void beginsAnew() {
        Works works = Works.begun("rec f (x : int) : int = if x = 0 then 5 else f (x - 1) in f 3");
        works.isAt("begun", 1, 0, 0, 0, 0, -1);
        works.run(2);
        works.isAt("behind two calls", 1, 0, 2, 1, 2, -1);
        Works.due("start()", works.start(), 0);
        works.isAt("begun anew", 1, 0, 0, 0, 0, -1);
        works.run(2000);
        works.isAt("done", 2, 5, 4, 1, 0, -1);
        works.start();
        works.isAt("begun behind its end", 1, 0, 0, 0, 0, -1);
        works.run(2000);
        works.isAt("done again", 2, 5, 4, 1, 0, -1);
    }

    private static void beginsAnewBehindEachEnd() {
        String[] texts = {
            "effect E : unit -> int; handle E ! () with return x -> x | E u k -> k 1 + k 2 end",
            "effect E : unit -> int; E ! ()",
            "rec f (x : int) : int = let g = fn (y : int) -> y in f (g x) in f 1",
            "rec f (x : int) : int = 1 + f x in f 1"};
        int[] states = {3, 4, 6, 6};
        for (int i = 0; i < texts.length; i++) {
            Works works = Works.begun(texts[i]);
            int first = works.run(2000);
            Works.due("state(0)", works.x.state(0), states[i]);
            works.start();
            works.isAt("begun anew", 1, 0, 0, 0, 0, -1);
            Works.due("run(2000) again", works.run(2000), first);
            Works.due("state(0) again", works.x.state(0), states[i]);
        }
    }
}
