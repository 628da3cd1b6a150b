/** Promise 10: how the run stands, with FUEL, THINGS and DEPTH. */
public final class P10StateTest {
    private static final String E = "effect E : unit -> int; ";
    private static final String EF = "effect E : unit -> int; effect F : unit -> int; ";

    public static void main(String[] args) {
        otherQuestions();
        aheadOfStart();
        values();
        valuesAreOfTheEnd();
        whichEffect();
        fuel();
        things();
        thingsOfContinuations();
        depthOfCalls();
        depthOfHandlers();
        depthOfContinuations();
        Works.finish();
    }

    private static void otherQuestions() {
        int[] others = {6, 7, -1, -6, Integer.MAX_VALUE, Integer.MIN_VALUE};
        Works none = new Works();
        Works read = Works.of("1");
        Works begun = Works.begun("1");
        Works done = Works.begun("1");
        done.run(0);
        Works[] all = {none, read, begun, done};
        for (Works works : all) {
            for (int what : others) {
                Works.due("state(" + what + ")", works.x.state(what), -1);
            }
        }
    }

    private static void aheadOfStart() {
        Works works = new Works();
        works.isAt("no program", 0, 0, 0, 0, 0, -1);
        works.put("1");
        works.isAt("a text in hand", 0, 0, 0, 0, 0, -1);
        works.read();
        works.isAt("ahead of start()", 0, 0, 0, 0, 0, -1);
        works.start();
        works.isAt("from start() on", 1, 0, 0, 0, 0, -1);
        works.run(0);
        works.isAt("done", 2, 1, 0, 0, 0, -1);
        works.read();
        works.isAt("no program again", 0, 0, 0, 0, 0, -1);
    }

    private static void values() {
        Works.gives("7", 7);
        Works.gives("0 - 7", -7);
        Works.gives("0 - 1", -1);
        Works.gives("1 < 2", 1);
        Works.gives("2 < 1", 0);
        Works.gives("1 = 1", 1);
        Works.gives("true", 1);
        Works.gives("false", 0);
        Works.gives("()", 0);
        Works.gives("let f = fn (x : int) -> x in let g = fn (x : int) -> x in g", 0);
        Works.gives("let x = 5 in rec f (x : int) : int = x in f", 0);
        Works.gives("effect G : unit -> (int -> int); let g = fn (x : int) -> x in "
            + "handle G ! () with return x -> x | G u k -> k g end", 0);
    }

    /** A value is told of one that is DONE alone. */
    private static void valuesAreOfTheEnd() {
        Works works = Works.begun("let f = fn (x : int) -> x in f 9");
        works.run(0);
        works.isAt("waits for fuel", 1, 0, 0, 1, 0, -1);
        works.run(1);
        works.isAt("done", 2, 9, 1, 1, 0, -1);
        works.start();
        works.isAt("begun anew", 1, 0, 0, 0, 0, -1);
        works.run(1);
        works.put("7");
        works.isAt("a text comes", 2, 9, 1, 1, 0, -1);
        works.read();
        works.isAt("read", 0, 0, 0, 0, 0, -1);
        Works.ends(E + "9 + (handle E ! () with return x -> x | E u k -> k 1 + k 2 end)", 3, 0, 3, 3, 1);
    }

    /** By declarations from 0 on, and of UNHANDLED alone. */
    private static void whichEffect() {
        StringBuilder eight = new StringBuilder();
        for (char c = 'A'; c <= 'H'; c++) {
            eight.append("effect ").append(c).append(":int->int;");
        }
        for (int i = 0; i < 8; i++) {
            Works works = Works.begun(eight + "" + (char) ('A' + i) + " ! 1");
            works.run(0);
            works.isAt("ahead of it", 1, 0, 0, 0, 0, -1);
            works.run(1);
            works.isAt("unhandled", 4, 0, 1, 0, 0, i);
            works.start();
            works.isAt("begun anew", 1, 0, 0, 0, 0, -1);
            works.run(1);
            works.put("1");
            works.read();
            works.isAt("read anew", 0, 0, 0, 0, 0, -1);
        }
    }

    private static void fuel() {
        Works.ends("let f = fn (x : int) -> x in f (f (f 1))", 2, 1, 3, 1, 0);
        Works.ends("let f = fn (x : int) -> fn (y : int) -> x in f 1 2", 2, 1, 2, 2, 0);
        Works.ends(E + "handle E ! () with return x -> x | E u k -> 5 end", 2, 5, 1, 3, 0);
        Works.ends(E + "handle E ! () with return x -> x | E u k -> k 5 end", 2, 5, 2, 3, 0);
        Works.ends("handle 1 with return x -> x end", 2, 1, 0, 1, 0);
    }

    private static void things() {
        Works.ends("1 + 2", 2, 3, 0, 0, 0);
        Works.ends("fn (x : int) -> x", 2, 0, 0, 1, 0);
        Works.ends("fn (x : int) -> fn (y : int) -> x", 2, 0, 0, 1, 0);
        Works.ends("rec f (x : int) : int = x in 1", 2, 1, 0, 1, 0);
        Works.ends("rec f (x : int) : int = x in f (f 1)", 2, 1, 2, 1, 0);
        Works.ends("handle 1 with return x -> x end", 2, 1, 0, 1, 0);
        Works.ends("if true then 1 else (fn (x : int) -> x) 1", 2, 1, 0, 0, 0);
        Works.ends("let f = fn (x : int) -> fn (y : int) -> x in let a = f 1 in let b = f 2 in 3", 2, 3, 2, 3, 0);
        Works works = Works.begun("let f = fn (x : int) -> x in handle f 1 with return x -> x end");
        works.run(0);
        works.isAt("a handle that has begun", 1, 0, 0, 2, 1, -1);
    }

    /** One for the continuation, one for each that it counts for DEPTH, its own handler among them. */
    private static void thingsOfContinuations() {
        Works.ends(E + "handle E ! () with return x -> x | E u k -> k 1 end", 2, 1, 2, 1 + 2, 0);
        Works.ends(E + "let g = fn (x : int) -> E ! () + x in handle g 1 with return x -> x | E u k -> k 1 end",
            2, 2, 3, 2 + 3, 0);
        Works.ends(E + "let g = fn (x : int) -> E ! () + x in handle g (g 1) with return x -> x | E u k -> k 1 end",
            2, 3, 6, 2 + 3 + 3, 0);
        Works.ends(E + "handle handle E ! () with {E} return x -> x end with return x -> x | E u k -> k 1 end",
            2, 1, 2, 2 + 3, 0);
        Works.ends(E + "handle handle 1 with {E} return x -> E ! () end with return x -> x | E u k -> k 1 end",
            2, 1, 2, 2 + 3, 0);
        Works.ends(EF + "handle handle F ! () with {E} return x -> x | F u k -> E ! () end with return x -> x "
            + "| E u k -> k 1 end", 2, 1, 3, 2 + 2 + 3, 0);
        Works.ends(E + "handle E ! () with return x -> x | E u k -> 7 end", 2, 7, 1, 3, 0);
    }

    private static void depthOfCalls() {
        Works works = Works.begun("rec f (n : int) : int = if n = 0 then 0 else f (n - 1) in f 5");
        for (int i = 0; i < 6; i++) {
            works.isAt("last acts count", 1, 0, i, i == 0 ? 0 : 1, i, -1);
            works.run(1);
        }
        works.isAt("done", 2, 0, 6, 1, 0, -1);
        works = Works.begun("let f = fn (n : int) -> n in let g = fn (n : int) -> f (f n) + 1 in g (f 1)");
        works.run(1);
        works.isAt("f is over", 1, 0, 1, 2, 0, -1);
        works.run(1);
        works.isAt("in g", 1, 0, 2, 2, 1, -1);
        works.run(1);
        works.isAt("the first f is over", 1, 0, 3, 2, 1, -1);
        works.run(1);
        works.isAt("done", 2, 2, 4, 2, 0, -1);
    }

    private static void depthOfHandlers() {
        Works works = Works.begun(E + "let id = fn (x : int) -> x in "
            + "handle handle id (E ! ()) with {E} return x -> id x end with return x -> id x | E u k -> id (k 1) end");
        works.run(0);
        works.isAt("two handlers", 1, 0, 0, 3, 2, -1);
        works.run(1);
        works.isAt("the clause", 1, 0, 1, 6, 1, -1);
        works.run(1);
        works.isAt("gone on", 1, 0, 2, 6, 3, -1);
        works.run(1);
        works.isAt("in the inner return", 1, 0, 3, 6, 3, -1);
        works.run(1);
        works.isAt("in the outer return", 1, 0, 4, 6, 2, -1);
        works.run(1);
        works.isAt("back in the clause", 1, 0, 5, 6, 1, -1);
        works.run(1);
        works.isAt("done", 2, 1, 6, 6, 0, -1);
    }

    /** The EXPRs of clauses count in what is taken up and brought back, calls of continuations never. */
    private static void depthOfContinuations() {
        Works works = Works.begun(EF + "handle handle F ! () with {E} return x -> x | F u k -> k (E ! ()) end with "
            + "return x -> x | E u k -> k 1 end");
        works.run(0);
        works.isAt("ahead of F", 1, 0, 0, 2, 2, -1);
        works.run(1);
        works.isAt("ahead of E", 1, 0, 1, 4, 2, -1);
        works.run(1);
        works.isAt("ahead of the outer k", 1, 0, 2, 7, 1, -1);
        works.run(1);
        works.isAt("ahead of the inner k", 1, 0, 3, 7, 3, -1);
        works.run(1);
        works.isAt("done", 2, 1, 4, 7, 0, -1);
        works = Works.begun(E + "let f = handle E ! () with return x -> fn (s : int) -> s "
            + "| E u k -> fn (s : int) -> k s s end in f 3");
        works.run(1);
        works.isAt("ahead of f", 1, 0, 1, 4, 0, -1);
        works.run(1);
        works.isAt("ahead of k", 1, 0, 2, 4, 1, -1);
        works.run(1);
        works.isAt("ahead of what k gave", 1, 0, 3, 5, 1, -1);
        works.run(1);
        works.isAt("done", 2, 3, 4, 5, 0, -1);
    }
}
