/** Promise 9: the program goes on until it ends or would take more than n of FUEL. */
public final class P09RunTest {
    private static final String E = "effect E : unit -> int; ";

    public static void main(String[] args) {
        refused();
        stopsAheadOfTheCall();
        stopsAheadOfThePerform();
        sliced();
        order();
        goingOn();
        handlers();
        clauses();
        names();
        Works.finish();
    }

    private static void refused() {
        Works works = new Works();
        Works.due("run(0) without a program", works.run(0), Works.THROWS_STATE);
        Works.due("run(-1) without a program", works.run(-1), Works.THROWS_STATE);
        works = Works.of("1");
        Works.due("run(0) ahead of start()", works.run(0), Works.THROWS_STATE);
        Works.due("run(2001) ahead of start()", works.run(2001), Works.THROWS_STATE);
        works.start();
        Works.due("run(-1)", works.run(-1), Works.THROWS_ARGUMENT);
        Works.due("run(2001)", works.run(2001), Works.THROWS_ARGUMENT);
        works.isAt("refused", 1, 0, 0, 0, 0, -1);
        Works.due("run(0)", works.run(0), 0);
        works.isAt("done", 2, 1, 0, 0, 0, -1);
        Works.due("run(2000) behind the end", works.run(2000), 0);
        Works.due("run(2001) behind the end", works.run(2001), Works.THROWS_ARGUMENT);
        works.isAt("still done", 2, 1, 0, 0, 0, -1);
    }

    private static void stopsAheadOfTheCall() {
        Works works = Works.begun("let f = fn (x : int) -> fn (y : int) -> x in f 1 2 + f 3 4");
        Works.due("run(0)", works.run(0), 0);
        works.isAt("ahead of f 1", 1, 0, 0, 1, 0, -1);
        Works.due("run(0)", works.run(0), 0);
        Works.due("run(1)", works.run(1), 1);
        works.isAt("ahead of f 1 2", 1, 0, 1, 2, 0, -1);
        Works.due("run(1)", works.run(1), 1);
        works.isAt("ahead of f 3", 1, 0, 2, 2, 0, -1);
        Works.due("run(2)", works.run(2), 2);
        works.isAt("done", 2, 4, 4, 3, 0, -1);
    }

    private static void stopsAheadOfThePerform() {
        Works works = Works.begun(E + "handle E ! () + 1 with return x -> x * 2 | E u k -> k 5 end");
        works.run(0);
        works.isAt("ahead of E", 1, 0, 0, 1, 1, -1);
        works.run(1);
        works.isAt("ahead of k", 1, 0, 1, 3, 1, -1);
        works.run(1);
        works.isAt("done", 2, 12, 2, 3, 0, -1);
    }

    private static void sliced() {
        String fib = "rec fib (n : int) : int = if n < 2 then n else fib (n - 1) + fib (n - 2) in fib 10";
        Works works = Works.begun(fib);
        int taken = 0;
        for (int i = 0; i < 1000 && works.x.state(0) == 1; i++) {
            taken += works.run(i % 4);
            Works.due("fuel", works.x.state(2), taken);
        }
        works.isAt("done", 2, 55, 177, 1, 0, -1);
        Works loop = Works.begun("rec f (x : int) : int = if x = 0 then 0 else f (x - 1) in "
            + "rec g (x : int) : int = let a = f 300 in g (x + a) in g 1");
        Works.due("run(2000)", loop.run(2000), 2000);
        Works.due("state(0)", loop.x.state(0), 1);
        Works.due("run(2000)", loop.run(2000), 2000);
        Works.due("state(2)", loop.x.state(2), 4000);
    }

    /** Each P ! v gives v and is logged as a digit. */
    private static void order() {
        logs("P ! 1 + P ! 2 * P ! 3", 123);
        logs("P ! 1 < P ! 2", 12);
        logs("(if P ! 1 < P ! 2 then P ! 3 else P ! 4)", 123);
        logs("(let g = fn (x : int) -> P ! x in let h = P ! 1 in g (P ! 2) + P ! 3)", 1223);
        logs("(let u = P ! 1 in fn (x : int) -> u) (P ! 2)", 12);
        logs("P ! (P ! 1 + 1)", 12);
    }

    private static void logs(String body, int digits) {
        Works.gives("effect P : int -> int; let f = handle " + body
            + " with return x -> fn (s : int) -> s | P v k -> fn (s : int) -> k v (s * 10 + v) end in f 0",
            digits);
    }

    private static void goingOn() {
        Works.gives(E + "handle E ! () + 1 with return x -> x * 2 | E u k -> 100 end", 100);
        Works.gives(E + "handle E ! () + 1 with return x -> x * 2 | E u k -> k 5 + 100 end", 112);
        Works.gives(E + "handle E ! () * 10 + E ! () with return x -> x | E u k -> k 1 + 7 end", 25);
        Works.gives(E + "let y = 3 in let f = handle (let z = 4 in E ! () + y * z) with "
            + "return x -> fn (s : int) -> x + s | E u k -> fn (s : int) -> k s (s + y) end in f 5", 25);
        Works.gives("999999999 + 999999999 + 147483649 + 1 < 0", 1);
        Works.gives("0 - 5 < 3", 1);
        Works.gives("999999999 + 999999999 + 147483649 + 1", Integer.MIN_VALUE);
        Works.gives("999999999 * 999999999", 999999999 * 999999999);
    }

    private static void handlers() {
        Works.gives(E + "handle handle E ! () with return x -> x + 1 | E u k -> k 10 end with "
            + "return x -> x | E u k -> k 20 end", 11);
        Works.gives(E + "handle handle E ! () with {E} return x -> E ! () + x | E u k -> k (E ! ()) end with "
            + "return x -> x | E u k -> k 20 end", 40);
        Works.gives("effect E : unit -> int; effect F : unit -> int; handle handle F ! () + E ! () with {E} "
            + "return x -> x + 1 | F u k -> k 1 * 100 end with return x -> x * 2 | E u k -> k 20 + 3 end", 4403);
        Works.gives("effect E : unit -> int; effect F : unit -> int; handle handle F ! () + E ! () with {F} "
            + "return x -> x + 1 | E u k -> k 1 * 100 end with return x -> x * 2 | F u k -> k 20 + 3 end", 4403);
    }

    /** One clause of three is the one for the effect, wherever it stands. */
    private static void clauses() {
        String three = "effect A : int -> int; effect B : int -> int; effect C : int -> int; handle ";
        String with = " with return x -> x | C v k -> k (v * 3) | A v k -> k (v + 1) | B v k -> k (0 - v) end";
        Works.gives(three + "A ! 10" + with, 11);
        Works.gives(three + "B ! 10" + with, -10);
        Works.gives(three + "C ! 10" + with, 30);
        Works.gives(three + "A ! (B ! (C ! 10))" + with, -29);
    }

    private static void names() {
        Works.gives("let x = 1 in let x = x + 1 in x * 10", 20);
        Works.gives("rec f (f : int) : int = f + 1 in f 1", 2);
        Works.gives(E + "handle E ! () with return x -> x | E k k -> k 3 end", 3);
        Works.gives("let x = 1 in let f = fn (y : int) -> x + y in let x = 10 in f x", 11);
        Works.gives("let a = 1 in 100 * (let b = 2 in a + (let c = 3 in (fn (d : int) -> a + b * 10 + c * 100 + d * 1000) 4) + b)",
            432400);
        Works.gives("rec f (n : int) : (int -> int) = fn (m : int) -> if m = 0 then n else f (n + 1) (m - 1) in f 1 5", 6);
    }
}
