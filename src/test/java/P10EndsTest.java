/** Promise 10, the ends: TWICE, UNHANDLED, FULL and DEEP, what they leave, and their order. */
public final class P10EndsTest {
    private static final String E = "effect E : unit -> int; ";
    private static final String DOWN = "rec f (n : int) : int = if n = 0 then 0 else f (n - 1) in ";
    private static final String MAKE =
        "rec make (n : int) : int = if n = 0 then 0 else let f = fn (x : int) -> x in make (n - 1) in ";
    /** Makes 799 THINGS with 800 of FUEL, and leaves DEPTH 0. */
    private static final String MOST = MAKE + "let a = make 399 in let b = make 399 in ";
    private static final String HANDLE_AT =
        "rec f (n : int) : int = if n = 0 then handle 1 with return x -> x end else f (n - 1) in ";

    public static void main(String[] args) {
        twice();
        twiceWhileItGoesOn();
        onceEach();
        unhandled();
        fullByFunctions();
        fullByHandle();
        fullByPerform();
        deepByCalls();
        deepByHandle();
        deepByGoingOn();
        neitherFullNorDeep();
        twiceAheadOfDeep();
        unhandledAheadOfFull();
        fullAheadOfDeep();
        endsLeaveAllElse();
        Works.finish();
    }

    private static void twice() {
        Works.ends(E + "handle E ! () with return x -> x | E u k -> k 1 + k 2 end", 3, 0, 3, 3, 1);
        Works.ends(E + "handle E ! () with return x -> x | E u k -> k (k 2) end", 3, 0, 3, 3, 1);
        Works.ends(E + "let f = handle E ! () + E ! () with return x -> fn (g : int) -> x | E u k -> "
            + "fn (g : int) -> (let a = k g in 1) + (let b = k g in 2) end in f 5", 3, 0, 5, 7, 1);
        Works.ends(E + "handle E ! () with return x -> x | E u k -> let j = k in j 1 + k 2 end", 3, 0, 3, 3, 1);
    }

    /** The first time need not be over: the body itself calls what goes on with it again. */
    private static void twiceWhileItGoesOn() {
        Works.ends("effect G : unit -> (int -> int); handle (G ! ()) 1 with return x -> x | G u k -> "
            + "k (fn (x : int) -> k (fn (y : int) -> y)) end", 3, 0, 4, 5, 3);
    }

    /** Each PERFORM has a continuation of its own; one that is never gone on with is fine. */
    private static void onceEach() {
        Works.ends(E + "handle E ! () + E ! () + E ! () with return x -> x | E u k -> k 1 end", 2, 3, 6, 7, 0);
        Works.ends(E + "handle E ! () with return x -> x | E u k -> 5 end", 2, 5, 1, 3, 0);
    }

    private static void unhandled() {
        Works works = Works.begun("effect A : int -> int; effect B : int -> int; "
            + "rec f (x : int) : int {B} = B ! x in handle f 1 with {B} return x -> x | A y k -> 1 end");
        works.run(2000);
        works.isAt("unhandled", 4, 0, 2, 2, 2, 1);
        works.start();
        Works.due("state(5) begun anew", works.x.state(5), -1);
        works = Works.begun("effect A : int -> int; handle A ! 1 with {A} return x -> x | A y k -> A ! y end");
        works.run(2000);
        works.isAt("in the clause", 4, 0, 2, 3, 1, 0);
        works = Works.begun("effect A : int -> int; handle 1 with {A} return x -> A ! x | A y k -> y end");
        works.run(2000);
        works.isAt("in return", 4, 0, 1, 1, 1, 0);
        works = Works.begun("effect A : int -> int; (handle 1 with return x -> x | A y k -> y end) + A ! 1");
        works.run(2000);
        works.isAt("behind the handle", 4, 0, 1, 1, 0, 0);
    }

    /** The 1000th fn or rec is made, a 1001st ends the run. */
    private static void fullByFunctions() {
        Works.ends(MOST + "make 201", 2, 0, 1002, 1000, 0);
        Works.ends(MOST + "make 202", 5, 0, 1002, 1000, 202);
        Works.ends(MOST + "let c = make 200 in rec f (x : int) : int = 1 in f 1", 2, 1, 1002, 1000, 0);
        Works.ends(MOST + "let c = make 201 in rec f (x : int) : int = 1 in f 1", 5, 0, 1002, 1000, 0);
        Works.ends(MOST + "let c = make 200 in (fn (x : int) -> x) 1", 2, 1, 1002, 1000, 0);
        Works.ends(MOST + "let c = make 201 in (fn (x : int) -> x) 1", 5, 0, 1002, 1000, 0);
    }

    private static void fullByHandle() {
        Works.ends(MOST + "let c = make 200 in handle 1 with return x -> x end", 2, 1, 1001, 1000, 0);
        Works.ends(MOST + "let c = make 201 in handle 1 with return x -> x end", 5, 0, 1002, 1000, 0);
        Works.ends(MOST + "let c = make 200 in handle handle 1 with return x -> x end with return x -> x end",
            5, 0, 1001, 1000, 1);
    }

    /** What a PERFORM makes comes all at once or not at all. */
    private static void fullByPerform() {
        String one = "handle E ! () with return x -> x | E u k -> k 5 end";
        Works.ends(E + MOST + "let c = make 198 in " + one, 2, 5, 1001, 1000, 0);
        Works.ends(E + MOST + "let c = make 199 in " + one, 5, 0, 1001, 999, 1);
        Works.ends(E + MOST + "let c = make 200 in " + one, 5, 0, 1002, 1000, 1);
        String three = "handle handle handle E ! () with {E} return x -> x end with {E} return x -> x end with "
            + "return x -> x | E u k -> k 5 end";
        Works.ends(E + MOST + "let c = make 194 in " + three, 2, 5, 997, 1000, 0);
        Works.ends(E + MOST + "let c = make 195 in " + three, 5, 0, 997, 997, 3);
        Works.ends(E + MOST + "let c = make 198 in " + three, 5, 0, 1000, 1000, 3);
        Works.ends(E + MOST + "let c = make 199 in " + three, 5, 0, 1000, 1000, 2);
    }

    private static void deepByCalls() {
        Works.ends(DOWN + "f 399", 2, 0, 400, 1, 0);
        Works.ends(DOWN + "f 400", 6, 0, 401, 1, 400);
        Works.ends(DOWN + "let g = fn (x : int) -> f x in g 398", 2, 0, 400, 2, 0);
        Works.ends(DOWN + "let g = fn (x : int) -> f x in g 399", 6, 0, 401, 2, 400);
        Works.ends(DOWN + "handle f 398 with return x -> x end", 2, 0, 399, 2, 0);
        Works.ends(DOWN + "handle f 399 with return x -> x end", 6, 0, 400, 2, 400);
        Works.ends(DOWN + "handle 1 with return x -> f 398 end", 2, 0, 399, 2, 0);
        Works.ends(DOWN + "handle 1 with return x -> f 399 end", 6, 0, 400, 2, 400);
        Works.ends(E + DOWN + "handle E ! () with return x -> x | E u k -> f 398 end", 2, 0, 400, 4, 0);
        Works.ends(E + DOWN + "handle E ! () with return x -> x | E u k -> f 399 end", 6, 0, 401, 4, 400);
    }

    private static void deepByHandle() {
        Works.ends(HANDLE_AT + "f 398", 2, 1, 399, 2, 0);
        Works.ends(HANDLE_AT + "f 399", 6, 0, 400, 1, 400);
    }

    /** All that the continuation brings counts at once, with its own handler. */
    private static void deepByGoingOn() {
        String down = "rec d (n : int) : int = if n = 0 then k 1 else d (n - 1) in ";
        String one = E + "handle E ! () with return x -> x | E u k -> " + down;
        Works.ends(one + "d 397 end", 2, 1, 400, 4, 0);
        Works.ends(one + "d 398 end", 6, 0, 401, 4, 400);
        String many = E + "rec f (n : int) : int {E} = if n = 0 then E ! () else 1 + f (n - 1) in "
            + "handle f 198 with return x -> x | E u k -> " + down;
        Works.ends(many + "d 198 end", 2, 199, 400, 204, 0);
        Works.ends(many + "d 199 end", 6, 0, 401, 204, 201);
        Works.ends(many + "d 397 end", 6, 0, 599, 204, 399);
    }

    /** Both limits are reached, and then gone beyond by none: what makes nothing is worked. */
    private static void neitherFullNorDeep() {
        Works.ends(MOST + "let c = make 200 in " + DOWN + "f 399", 2, 0, 1401, 1000, 0);
        String performs = "rec f (n : int) : int {E} = 3 + E ! () in handle f 0 with return x -> x | E u k -> k 4 end";
        Works.ends(E + MOST + "let c = make 197 in " + performs, 5, 0, 1000, 998, 2);
        Works.ends(E + MOST + "let c = make 196 in " + performs, 2, 7, 1000, 1000, 0);
    }

    private static void twiceAheadOfDeep() {
        String text = E + "handle E ! () with return x -> x | E u k -> let a = k 1 in "
            + "rec d (n : int) : int = if n = 0 then k 2 else d (n - 1) in ";
        Works.ends(text + "d 398 end", 3, 0, 402, 4, 400);
        Works.ends(text + "d 399 end", 6, 0, 402, 4, 400);
    }

    private static void unhandledAheadOfFull() {
        Works works = Works.begun(E + MOST + "let c = make 201 in E ! ()");
        works.run(2000);
        works.isAt("unhandled ahead of full", 4, 0, 1003, 1000, 0, 0);
    }

    private static void fullAheadOfDeep() {
        Works.ends(MOST + "let c = make 200 in " + HANDLE_AT + "f 399", 5, 0, 1401, 1000, 400);
        Works.ends(MOST + "let c = make 199 in " + HANDLE_AT + "f 399", 6, 0, 1400, 999, 400);
        Works.ends(MOST + "let c = make 200 in " + HANDLE_AT + "f 398", 5, 0, 1400, 1000, 399);
    }

    /** FUEL, THINGS and DEPTH stay as they were just ahead, but for the FUEL that was taken. */
    private static void endsLeaveAllElse() {
        String handle = E + "let g = fn (x : int) -> E ! () + x in handle g 1 with ";
        leaves(handle + "return x -> x | E u k -> k 1 + k 2 end", 3, 3);
        leaves(handle + "{E} return x -> x end", 4, 1);
        leaves(E + MOST + "let c = make 199 in handle E ! () with return x -> x | E u k -> k 5 end", 5, 1000);
        leaves(DOWN + "f 400", 6, 400);
    }

    /** Behind so much fuel the next call or PERFORM is what ends the run. */
    private static void leaves(String text, int state, int fuel) {
        Works works = Works.begun(text);
        Works.due("run(" + fuel + ") of " + text, works.run(fuel), fuel);
        Works.due("state(0) of " + text, works.x.state(0), 1);
        int things = works.x.state(3);
        int depth = works.x.state(4);
        Works.due("run(1) of " + text, works.run(1), 1);
        works.isAt(text, state, 0, fuel + 1, things, depth, state == 4 ? 0 : -1);
    }
}
