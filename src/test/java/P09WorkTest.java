/** Promise 9, the running: what is worked in which order, and what a continuation brings. */
public final class P09WorkTest {
    private static final String E = "effect E : unit -> int; ";
    private static final String EF = "effect E : unit -> int; effect F : unit -> int; ";

    public static void main(String[] args) {
        numbersRunOver();
        lessGoesByTheSign();
        order();
        onlyOneBranch();
        names();
        goingOn();
        continuationsElsewhere();
        innermostHandler();
        returnIsWithoutTheHandler();
        clausesAreWithoutTheHandler();
        theHandlerComesBack();
        clauses();
        eightClauses();
        allClausesButOne();
        Works.finish();
    }

    private static void numbersRunOver() {
        String most = "(999999999 + 999999999 + 147483649)";
        Works.gives(most, Integer.MAX_VALUE);
        Works.gives(most + " + 1", Integer.MIN_VALUE);
        Works.gives("0 - " + most, -Integer.MAX_VALUE);
        Works.gives("0 - " + most + " - 1", Integer.MIN_VALUE);
        Works.gives("0 - " + most + " - 2", Integer.MAX_VALUE);
        Works.gives(most + " * 2", -2);
        Works.gives(most + " * " + most, 1);
        Works.gives("(" + most + " + 1) * (0 - 1)", Integer.MIN_VALUE);
        Works.gives("0 - (" + most + " + 1)", Integer.MIN_VALUE);
        Works.gives("999999999 * 999999999", 999999999 * 999999999);
        Works.gives("65536 * 65536", 0);
    }

    private static void lessGoesByTheSign() {
        String most = "(999999999 + 999999999 + 147483649)";
        String least = "(999999999 + 999999999 + 147483649 + 1)";
        Works.gives(least + " < " + most, 1);
        Works.gives(most + " < " + least, 0);
        Works.gives(least + " < 0", 1);
        Works.gives("0 < " + least, 0);
        Works.gives("0 - 1 < 0", 1);
        Works.gives("0 < 0 - 1", 0);
        Works.gives("1 < 2", 1);
        Works.gives("2 < 2", 0);
        Works.gives("3 < 2", 0);
        Works.gives("1 = 2", 0);
        Works.gives("2 = 2", 1);
        Works.gives("3 = 2", 0);
        Works.gives("0 - 2 = 2", 0);
        Works.gives(most + " + 1 = " + least, 1);
    }

    /** Each P ! v gives v and is logged as a digit. */
    private static void order() {
        logs("P ! 1 + P ! 2 * P ! 3", 123);
        logs("P ! 1 * P ! 2 - P ! 3", 123);
        logs("P ! 1 < P ! 2", 12);
        logs("P ! 1 = P ! 2", 12);
        logs("(if P ! 1 < P ! 2 then P ! 3 else P ! 4)", 123);
        logs("(if P ! 2 < P ! 1 then P ! 3 else P ! 4)", 214);
        logs("(let g = fn (x : int) -> P ! x in let h = P ! 1 in g (P ! 2) + P ! 3)", 1223);
        logs("(let u = P ! 1 in fn (x : int) -> u) (P ! 2)", 12);
        logs("(let u = P ! 1 in fn (x : int) -> P ! 3) (P ! 2)", 123);
        logs("(let u = P ! 1 in fn (x : int) -> let v = P ! 3 in fn (y : int) -> P ! 5) (P ! 2) (P ! 4)", 12345);
        logs("P ! (P ! 1 + 1)", 12);
        logs("(rec f (n : int) : int {P} = if n = 0 then 0 else f (n - 1) + P ! n in P ! 9 + f 3)", 9123);
    }

    private static void logs(String body, int digits) {
        Works.gives("effect P : int -> int; let f = handle " + body
            + " with return x -> fn (s : int) -> s | P v k -> fn (s : int) -> k v (s * 10 + v) end in f 0",
            digits);
    }

    private static void onlyOneBranch() {
        Works.ends(E + "if true then 1 else E ! ()", 2, 1, 0, 0, 0);
        Works.ends(E + "if false then E ! () else 2", 2, 2, 0, 0, 0);
        Works.ends(E + "let f = fn (x : int) -> E ! () in 3", 2, 3, 0, 1, 0);
    }

    private static void names() {
        Works.gives("let x = 1 in let x = x + 1 in x * 10", 20);
        Works.gives("let x = 1 in (let x = 2 in x) * 10 + x", 21);
        Works.gives("rec f (f : int) : int = f + 1 in f 1", 2);
        Works.gives("let x = 5 in rec f (x : int) : int = x in f 3 * 10 + x", 35);
        Works.gives(E + "handle E ! () with return x -> x | E k k -> k 3 end", 3);
        Works.gives("let x = 1 in let f = fn (y : int) -> x + y in let x = 10 in f x", 11);
        Works.gives("let a = 1 in 100 * (let b = 2 in a + (let c = 3 in (fn (d : int) -> "
            + "a + b * 10 + c * 100 + d * 1000) 4) + b)", 432400);
        Works.gives("rec f (n : int) : (int -> int) = fn (m : int) -> if m = 0 then n else f (n + 1) (m - 1) in "
            + "f 1 5", 6);
        Works.gives(E + "let x = 7 in handle (let x = 1 in E ! () + x) with return y -> y * x | E x k -> k 2 end", 21);
    }

    private static void goingOn() {
        Works.gives(E + "handle E ! () + 1 with return x -> x * 2 | E u k -> 100 end", 100);
        Works.gives(E + "handle E ! () + 1 with return x -> x * 2 | E u k -> k 5 + 100 end", 112);
        Works.gives(E + "handle E ! () * 10 + E ! () with return x -> x | E u k -> k 1 + 7 end", 25);
        Works.gives(E + "1000 + (handle E ! () + 1 with return x -> x * 2 | E u k -> 100 end)", 1100);
        Works.gives(E + "handle 5 with return x -> x * 2 | E u k -> 100 end", 10);
        Works.gives("effect G : bool -> unit; handle (let u = G ! true in 4) with return x -> x "
            + "| G b k -> if b then k () + 1 else 0 end", 5);
    }

    /** A continuation is gone on with outside of its handle, later, and among other calls. */
    private static void continuationsElsewhere() {
        Works.gives(E + "let y = 3 in let f = handle (let z = 4 in E ! () + y * z) with "
            + "return x -> fn (s : int) -> x + s | E u k -> fn (s : int) -> k s (s + y) end in f 5", 25);
        Works.gives(E + "let f = handle E ! () * 10 + E ! () with return x -> fn (s : int) -> x "
            + "| E u k -> fn (s : int) -> k s (s + 1) end in f 3 + 100", 134);
        Works.gives(E + "let id = fn (x : int) -> x in let f = handle id (E ! ()) with "
            + "return x -> fn (s : int) -> x + s | E u k -> fn (s : int) -> id (k s s) end in id (f 4)", 8);
    }

    private static void innermostHandler() {
        Works.gives(E + "handle handle E ! () with return x -> x + 1 | E u k -> k 10 end with "
            + "return x -> x | E u k -> k 20 end", 11);
        Works.gives(EF + "handle handle F ! () + E ! () with {E} return x -> x + 1 | F u k -> k 1 * 100 end with "
            + "return x -> x * 2 | E u k -> k 20 + 3 end", 4403);
        Works.gives(EF + "handle handle F ! () + E ! () with {F} return x -> x + 1 | E u k -> k 1 * 100 end with "
            + "return x -> x * 2 | F u k -> k 20 + 3 end", 4403);
        Works.gives(E + "handle (handle 1 with return x -> x | E u k -> 50 end) + E ! () with "
            + "return x -> x | E u k -> k 2 end", 3);
    }

    private static void returnIsWithoutTheHandler() {
        Works.gives(E + "handle handle 1 with {E} return x -> E ! () + x | E u k -> 100 end with "
            + "return x -> x | E u k -> k 20 end", 21);
        Works.gives(E + "handle handle E ! () with {E} return x -> E ! () + x | E u k -> k (E ! ()) end with "
            + "return x -> x | E u k -> k 20 end", 40);
    }

    private static void clausesAreWithoutTheHandler() {
        Works.gives(E + "handle handle E ! () with {E} return x -> x + 1 | E u k -> E ! () + 5 end with "
            + "return x -> x * 2 | E u k -> k 20 end", 50);
    }

    /** What is gone on with has its handler around it again, each time. */
    private static void theHandlerComesBack() {
        Works.gives(E + "handle handle E ! () + E ! () + E ! () with {E} return x -> x + 1 | E u k -> k 10 end with "
            + "return x -> x | E u k -> 1000 end", 31);
        Works.gives(EF + "handle handle F ! () + E ! () + F ! () with {E} return x -> x | F u k -> k 1 end with "
            + "return x -> x | E u k -> k 20 end", 22);
    }

    /** One clause of three is the one for the effect, wherever it stands. */
    private static void clauses() {
        String three = "effect A : int -> int; effect B : int -> int; effect C : int -> int; handle ";
        String with = " with return x -> x | C v k -> k (v * 3) | A v k -> k (v + 1) | B v k -> k (0 - v) end";
        Works.gives(three + "A ! 10" + with, 11);
        Works.gives(three + "B ! 10" + with, -10);
        Works.gives(three + "C ! 10" + with, 30);
        Works.gives(three + "A ! (B ! (C ! 10))" + with, -29);
    }

    private static void eightClauses() {
        StringBuilder declared = new StringBuilder();
        StringBuilder clauses = new StringBuilder(" with return x -> x");
        for (int i = 0; i < 8; i++) {
            char effect = (char) ('A' + i);
            declared.append("effect ").append(effect).append(":int->int;");
            clauses.append(" | ").append(effect).append(" a k -> k (a + ").append(i).append(")");
        }
        for (int i = 0; i < 8; i++) {
            Works.gives(declared + "handle " + (char) ('A' + i) + " ! 10" + clauses + " end", 10 + i);
        }
    }

    /** The inner handler has clauses for all effects but the one that is performed. */
    private static void allClausesButOne() {
        for (int i = 0; i < 8; i++) {
            StringBuilder declared = new StringBuilder();
            StringBuilder others = new StringBuilder();
            for (int j = 0; j < 8; j++) {
                declared.append("effect ").append((char) ('A' + j)).append(":int->int;");
                others.append(i == j ? "" : " | " + (char) ('A' + j) + " a k -> k 0");
            }
            char effect = (char) ('A' + i);
            Works.gives(declared + "let z = 5 in handle handle " + effect + " ! 10 with {" + effect + "} return x -> x"
                + others + " end with return x -> x | " + effect + " a k -> k (a + z) end", 15);
        }
    }
}
