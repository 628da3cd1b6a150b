/** Promise 9: the program goes on until it ends or would take more than n of FUEL. */
public final class P09RunTest {
    private static final String E = "effect E : unit -> int; ";
    private static final String DOWN = "rec f (n : int) : int = if n = 0 then 0 else f (n - 1) in ";
    private static final int[] OTHER_AMOUNTS = {-1, 2001, -2000, Integer.MIN_VALUE, Integer.MAX_VALUE};

    public static void main(String[] args) {
        notBegun();
        otherAmounts();
        behindTheEnd();
        withoutFuel();
        stopsAheadOfTheCall();
        stopsAheadOfThePerform();
        stopsAheadOfWhatEnds();
        endsBehindTheLastCall();
        mostFuel();
        slicesAreAlike();
        fuelOfManyRuns();
        Works.finish();
    }

    /** IllegalStateException comes first, also for an n that may not be. */
    private static void notBegun() {
        int[] amounts = {0, 1, 2000};
        Works none = new Works();
        Works read = Works.of("1");
        Works readAgain = Works.begun("1");
        readAgain.run(0);
        readAgain.put("2");
        readAgain.read();
        Works refused = Works.begun("1");
        refused.put("@");
        refused.read();
        Works[] all = {none, read, readAgain, refused};
        for (Works works : all) {
            for (int n : amounts) {
                Works.due("run(" + n + ") not begun", works.run(n), Works.THROWS_STATE);
            }
            for (int n : OTHER_AMOUNTS) {
                Works.due("run(" + n + ") not begun", works.run(n), Works.THROWS_STATE);
            }
            works.isAt("not begun", 0, 0, 0, 0, 0, -1);
        }
    }

    private static void otherAmounts() {
        Works works = Works.begun(DOWN + "f 3");
        for (int n : OTHER_AMOUNTS) {
            Works.due("run(" + n + ")", works.run(n), Works.THROWS_ARGUMENT);
            works.isAt("refused", 1, 0, 0, 0, 0, -1);
        }
        works.run(2);
        for (int n : OTHER_AMOUNTS) {
            Works.due("run(" + n + ")", works.run(n), Works.THROWS_ARGUMENT);
            works.isAt("refused behind two calls", 1, 0, 2, 1, 2, -1);
        }
        Works.due("run(2000)", works.run(2000), 2);
    }

    private static void behindTheEnd() {
        String[] texts = {"7", E + "handle E ! () with return x -> x | E u k -> k 1 + k 2 end", E + "E ! ()",
            DOWN + "f 400"};
        int[] states = {2, 3, 4, 6};
        for (int i = 0; i < texts.length; i++) {
            Works works = Works.begun(texts[i]);
            works.run(2000);
            int fuel = works.x.state(2);
            Works.due("state(0)", works.x.state(0), states[i]);
            Works.due("run(2000) behind the end", works.run(2000), 0);
            Works.due("run(0) behind the end", works.run(0), 0);
            for (int n : OTHER_AMOUNTS) {
                Works.due("run(" + n + ") behind the end", works.run(n), Works.THROWS_ARGUMENT);
            }
            Works.due("state(0) still", works.x.state(0), states[i]);
            Works.due("state(1) still", works.x.state(1), i == 0 ? 7 : 0);
            Works.due("state(2) still", works.x.state(2), fuel);
        }
    }

    /** What comes ahead of the first call is worked with n 0, too, and nothing of the call. */
    private static void withoutFuel() {
        Works works = Works.begun("1 + 2 * 3");
        Works.due("run(0)", works.run(0), 0);
        works.isAt("done", 2, 7, 0, 0, 0, -1);
        works = Works.begun("let g = fn (x : int) -> x in handle (let h = fn (x : int) -> x in g (h 1)) with "
            + "return x -> x end");
        for (int i = 0; i < 3; i++) {
            Works.due("run(0)", works.run(0), 0);
            works.isAt("ahead of h", 1, 0, 0, 3, 1, -1);
        }
        Works.due("run(1)", works.run(1), 1);
        works.isAt("ahead of g", 1, 0, 1, 3, 1, -1);
    }

    private static void stopsAheadOfTheCall() {
        Works works = Works.begun("let f = fn (x : int) -> fn (y : int) -> x in f 1 2 + f 3 4");
        Works.due("run(0)", works.run(0), 0);
        works.isAt("ahead of f 1", 1, 0, 0, 1, 0, -1);
        Works.due("run(0)", works.run(0), 0);
        Works.due("run(1)", works.run(1), 1);
        works.isAt("ahead of f 1 2", 1, 0, 1, 2, 0, -1);
        Works.due("run(1)", works.run(1), 1);
        works.isAt("ahead of f 3", 1, 0, 2, 2, 0, -1);
        Works.due("run(2)", works.run(2), 2);
        works.isAt("done", 2, 4, 4, 3, 0, -1);
    }

    private static void stopsAheadOfThePerform() {
        Works works = Works.begun(E + "handle E ! () + 1 with return x -> x * 2 | E u k -> k 5 end");
        works.run(0);
        works.isAt("ahead of E", 1, 0, 0, 1, 1, -1);
        works.run(1);
        works.isAt("ahead of k", 1, 0, 1, 3, 1, -1);
        works.run(1);
        works.isAt("done", 2, 12, 2, 3, 0, -1);
    }

    /** A call or PERFORM that ends the run takes its fuel first. */
    private static void stopsAheadOfWhatEnds() {
        Works works = Works.begun(E + "E ! ()");
        Works.due("run(0)", works.run(0), 0);
        works.isAt("ahead of what nothing handles", 1, 0, 0, 0, 0, -1);
        Works.due("run(1)", works.run(1), 1);
        works.isAt("unhandled", 4, 0, 1, 0, 0, 0);
        works = Works.begun(E + "handle E ! () with return x -> x | E u k -> k 1 + k 2 end");
        Works.due("run(2)", works.run(2), 2);
        works.isAt("ahead of the second k", 1, 0, 2, 3, 1, -1);
        Works.due("run(0)", works.run(0), 0);
        works.isAt("still ahead of it", 1, 0, 2, 3, 1, -1);
        Works.due("run(1)", works.run(1), 1);
        works.isAt("twice", 3, 0, 3, 3, 1, -1);
        works = Works.begun(DOWN + "f 400");
        Works.due("run(400)", works.run(400), 400);
        works.isAt("ahead of the 401st", 1, 0, 400, 1, 400, -1);
        Works.due("run(0)", works.run(0), 0);
        Works.due("state(0)", works.x.state(0), 1);
        Works.due("run(2000)", works.run(2000), 1);
        works.isAt("deep", 6, 0, 401, 1, 400, -1);
    }

    /** With just the fuel that it needs a program comes to its end. */
    private static void endsBehindTheLastCall() {
        for (int calls = 1; calls < 6; calls++) {
            Works works = Works.begun(DOWN + "f " + (calls - 1) + " + 3");
            Works.due("run(one less)", works.run(calls - 1), calls - 1);
            Works.due("state(0)", works.x.state(0), 1);
            works.start();
            Works.due("run(just enough)", works.run(calls), calls);
            works.isAt("done", 2, 3, calls, 1, 0, -1);
            works.start();
            Works.due("run(one more)", works.run(calls + 1), calls);
            works.isAt("done", 2, 3, calls, 1, 0, -1);
        }
    }

    private static void mostFuel() {
        String calls2000 = DOWN + "f 399 + f 399 + f 399 + f 399 + f 399";
        Works works = Works.begun(calls2000);
        Works.due("run(1999)", works.run(1999), 1999);
        Works.due("state(0)", works.x.state(0), 1);
        works.start();
        Works.due("run(2000)", works.run(2000), 2000);
        works.isAt("done", 2, 0, 2000, 1, 0, -1);
        works = Works.begun(calls2000 + " + f 0");
        Works.due("run(2000)", works.run(2000), 2000);
        works.isAt("waits", 1, 0, 2000, 1, 0, -1);
        Works.due("run(2000)", works.run(2000), 1);
        works.isAt("done", 2, 0, 2001, 1, 0, -1);
    }

    private static void slicesAreAlike() {
        String[] texts = {
            "rec fib (n : int) : int = if n < 2 then n else fib (n - 1) + fib (n - 2) in fib 7",
            "effect G : unit -> int; effect P : int -> unit; let f = handle (let a = G ! () in let b = P ! (a + 1) in "
                + "G ! () * 10) with return x -> fn (s : int) -> x + s | G u k -> fn (s : int) -> k s s "
                + "| P v k -> fn (s : int) -> k () v end in f 4",
            E + "handle E ! () + (handle E ! () with {E} return x -> E ! () + x | E u k -> k (E ! ()) end) with "
                + "return x -> x | E u k -> k 20 + 1 end",
            E + DOWN + "f 20 + E ! ()"};
        for (String text : texts) {
            Works whole = Works.begun(text);
            int fuel = whole.run(2000);
            for (int n = 1; n < 8; n++) {
                Works works = Works.begun(text);
                int taken = 0;
                for (int i = 0; i < 100 && works.x.state(0) == 1; i++) {
                    Works.due("run(0)", works.run(0), 0);
                    taken += works.run(n);
                    Works.due("fuel", works.x.state(2), taken);
                }
                Works.due("all fuel", taken, fuel);
                for (int what = 0; what < 6; what++) {
                    Works.due("state(" + what + ") of " + text, works.x.state(what), whole.x.state(what));
                }
            }
        }
    }

    private static void fuelOfManyRuns() {
        Works loop = Works.begun("rec f (x : int) : int = if x = 0 then 0 else f (x - 1) in "
            + "rec g (x : int) : int = let a = f 300 in g (x + a) in g 1");
        for (int i = 1; i <= 10; i++) {
            Works.due("run(2000)", loop.run(2000), 2000);
            Works.due("state(0)", loop.x.state(0), 1);
            Works.due("state(2)", loop.x.state(2), 2000 * i);
        }
    }
}
