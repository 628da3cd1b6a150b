/** Promise 10: how the run stands, with FUEL, THINGS and DEPTH, and the order of the ends. */
public final class P10StateTest {
    private static final String E = "effect E : unit -> int; ";
    private static final String MAKE =
        "rec make (n : int) : int = if n = 0 then 0 else let f = fn (x : int) -> x in make (n - 1) in ";

    public static void main(String[] args) {
        otherQuestions();
        values();
        twice();
        unhandled();
        things();
        full();
        depths();
        deep();
        severalEnds();
        Works.finish();
    }

    private static void otherQuestions() {
        Works works = Works.of("1");
        works.isAt("ahead of start()", 0, 0, 0, 0, 0, -1);
        Works.due("state(6)", works.x.state(6), -1);
        Works.due("state(-1)", works.x.state(-1), -1);
        works.start();
        works.isAt("from start() on", 1, 0, 0, 0, 0, -1);
        Works.due("state(6)", works.x.state(6), -1);
    }

    private static void values() {
        Works.gives("7", 7);
        Works.gives("0 - 7", -7);
        Works.gives("1 < 2", 1);
        Works.gives("2 < 1", 0);
        Works.gives("true", 1);
        Works.gives("false", 0);
        Works.gives("()", 0);
        Works.gives("let f = fn (x : int) -> x in let g = fn (x : int) -> x in g", 0);
    }

    private static void twice() {
        Works.ends(E + "handle E ! () with return x -> x | E u k -> k 1 + k 2 end", 3, 0, 3, 3, 1);
        Works.ends(E + "handle E ! () with return x -> x | E u k -> k (k 2) end", 3, 0, 3, 3, 1);
        Works.ends(E + "let f = handle E ! () + E ! () with return x -> fn (g : int) -> x | E u k -> "
            + "fn (g : int) -> (let a = k g in 1) + (let b = k g in 2) end in f 5", 3, 0, 5, 7, 1);
    }

    private static void unhandled() {
        Works works = Works.begun("effect A : int -> int; effect B : int -> int; "
            + "rec f (x : int) : int {B} = B ! x in "
            + "handle f 1 with {B} return x -> x | A y k -> 1 end");
        works.run(2000);
        works.isAt("unhandled", 4, 0, 2, 2, 2, 1);
        works.start();
        Works.due("state(5) begun anew", works.x.state(5), -1);
        works = Works.begun("effect A : int -> int; handle A ! 1 with {A} return x -> x | A y k -> A ! y end");
        works.run(2000);
        works.isAt("in the clause", 4, 0, 2, 3, 1, 0);
        works = Works.begun("effect A : int -> int; handle 1 with {A} return x -> A ! x | A y k -> y end");
        works.run(2000);
        works.isAt("in return", 4, 0, 1, 1, 1, 0);
    }

    private static void things() {
        Works.ends("fn (x : int) -> x", 2, 0, 0, 1, 0);
        Works.ends("rec f (x : int) : int = x in 1", 2, 1, 0, 1, 0);
        Works.ends("handle 1 with return x -> x end", 2, 1, 0, 1, 0);
        Works.ends("if true then 1 else (fn (x : int) -> x) 1", 2, 1, 0, 0, 0);
        Works.ends(E + "let g = fn (x : int) -> E ! () + x in "
            + "handle g (g 1) with return x -> x | E u k -> k 1 end", 2, 3, 6, 8, 0);
        Works.ends(E + "handle handle E ! () with {E} return x -> x end with return x -> x "
            + "| E u k -> k 1 end", 2, 1, 2, 5, 0);
    }

    private static void full() {
        Works.ends(MAKE + "let a = make 399 in let b = make 399 in make 201", 2, 0, 1002, 1000, 0);
        Works.ends(MAKE + "let a = make 399 in let b = make 399 in make 202", 5, 0, 1002, 1000, 202);
        Works.ends(MAKE + "let a = make 399 in let b = make 399 in let c = make 201 in rec f (x : int) : int = 1 in f 1",
            5, 0, 1002, 1000, 0);
        Works.ends(E + MAKE + "let a = make 399 in let b = make 399 in let c = make 198 in "
            + "handle E ! () with return x -> x | E u k -> k 5 end", 2, 5, 1001, 1000, 0);
        Works.ends(E + MAKE + "let a = make 399 in let b = make 399 in let c = make 199 in "
            + "handle E ! () with return x -> x | E u k -> k 5 end", 5, 0, 1001, 999, 1);
    }

    private static void depths() {
        Works works = Works.begun("rec f (n : int) : int = if n = 0 then 0 else f (n - 1) in f 5");
        works.run(4);
        works.isAt("last acts count", 1, 0, 4, 1, 4, -1);
        works.run(2);
        works.isAt("done", 2, 0, 6, 1, 0, -1);
        works = Works.begun(E + "let id = fn (x : int) -> x in handle handle id (E ! ()) with {E} return x -> id x end "
            + "with return x -> id x | E u k -> id (k 1) end");
        works.run(0);
        works.isAt("two handlers", 1, 0, 0, 3, 2, -1);
        works.run(1);
        works.isAt("the clause", 1, 0, 1, 6, 1, -1);
        works.run(1);
        works.isAt("gone on", 1, 0, 2, 6, 3, -1);
        works.run(1);
        works.isAt("in the inner return", 1, 0, 3, 6, 3, -1);
        works.run(1);
        works.isAt("in the outer return", 1, 0, 4, 6, 2, -1);
        works.run(1);
        works.isAt("back in the clause", 1, 0, 5, 6, 1, -1);
        works.run(1);
        works.isAt("done", 2, 1, 6, 6, 0, -1);
    }

    private static void deep() {
        String down = "rec f (n : int) : int = if n = 0 then 0 else f (n - 1) in ";
        Works.ends(down + "f 399", 2, 0, 400, 1, 0);
        Works.ends(down + "f 400", 6, 0, 401, 1, 400);
        Works.ends(down + "handle f 398 with return x -> x end", 2, 0, 399, 2, 0);
        Works.ends(down + "handle f 399 with return x -> x end", 6, 0, 400, 2, 400);
        Works.ends(down + "handle 1 with return x -> f 398 end", 2, 0, 399, 2, 0);
        Works.ends(down + "handle 1 with return x -> f 399 end", 6, 0, 400, 2, 400);
        String handleAt = "rec f (n : int) : int = if n = 0 then handle 1 with return x -> x end else f (n - 1) in ";
        Works.ends(handleAt + "f 398", 2, 1, 399, 2, 0);
        Works.ends(handleAt + "f 399", 6, 0, 400, 1, 400);
        String goOnAt = E + "rec f (n : int) : int {E} = if n = 0 then E ! () else 1 + f (n - 1) in "
            + "handle f 198 with return x -> x | E u k -> "
            + "rec d (n : int) : int = if n = 0 then k 1 else d (n - 1) in ";
        Works.ends(goOnAt + "d 198 end", 2, 199, 400, 204, 0);
        Works.ends(goOnAt + "d 199 end", 6, 0, 401, 204, 201);
    }

    private static void severalEnds() {
        Works.ends(E + "handle E ! () with return x -> x | E u k -> let a = k 1 in "
            + "rec d (n : int) : int = if n = 0 then k 2 else d (n - 1) in d 398 end", 3, 0, 402, 4, 400);
        String most = MAKE + "let a = make 399 in let b = make 399 in ";
        String handleAt = "rec f (n : int) : int = if n = 0 then handle 1 with return x -> x end else f (n - 1) in ";
        Works.ends(most + "let c = make 200 in " + handleAt + "f 399", 5, 0, 1401, 1000, 400);
        Works.ends(most + "let c = make 199 in " + handleAt + "f 399", 6, 0, 1400, 999, 400);
        Works works = Works.begun(E + most + "let c = make 201 in E ! ()");
        works.run(2000);
        works.isAt("unhandled ahead of full", 4, 0, 1003, 1000, 0, 0);
    }
}
