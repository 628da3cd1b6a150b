/** Promise 6: the nodes of the program's type as it is written. */
public final class P06TypeTest {
    private static final String E = "effect E : int -> bool; ";

    public static void main(String[] args) {
        plainTypes();
        functions();
        formsOfExpr();
        deepTypes();
        withoutAProgram();
        ofTheLatestProgram();
        Works.finish();
    }

    private static void plainTypes() {
        isTyped("1", 0);
        isTyped("1 + 2", 0);
        isTyped("1 - 2", 0);
        isTyped("1 * 2", 0);
        isTyped("1 < 2", 1);
        isTyped("1 = 2", 1);
        isTyped("true", 1);
        isTyped("false", 1);
        isTyped("()", 2);
    }

    private static void functions() {
        String[] types = {"int", "bool", "unit"};
        String[] values = {"1", "true", "()"};
        for (int i = 0; i < 3; i++) {
            for (int j = 0; j < 3; j++) {
                isTyped("fn (x : " + types[i] + ") -> " + values[j], 3, i, j);
                isTyped("fn (f : (" + types[i] + " -> " + types[j] + ")) -> true", 3, 3, i, j, 1);
                isTyped("fn (u : unit) -> fn (x : " + types[i] + ") -> " + values[j], 3, 2, 3, i, j);
            }
        }
        isTyped("fn (f : (int -> unit)) -> fn (x : bool) -> f", 3, 3, 0, 2, 3, 1, 3, 0, 2);
        isTyped("fn (f : ((int -> bool) -> (unit -> int))) -> ()", 3, 3, 3, 0, 1, 3, 2, 0, 2);
    }

    private static void formsOfExpr() {
        isTyped("let f = fn (x : int) -> () in f", 3, 0, 2);
        isTyped("let f = fn (x : int) -> () in f 1", 2);
        isTyped("rec f (x : int) : bool = true in f", 3, 0, 1);
        isTyped("rec f (x : int) : bool = true in 1", 0);
        isTyped("(fn (x : int) -> fn (y : unit) -> x) 1", 3, 2, 0);
        isTyped("if true then fn (x : unit) -> 1 else fn (y : unit) -> 2", 3, 2, 0);
        isTyped("handle 1 with return x -> true end", 1);
        isTyped("handle true with return x -> () end", 2);
        isTyped("handle () with return x -> x end", 2);
        isTyped("handle 1 with return x -> fn (y : unit) -> true end", 3, 2, 1);
        isTyped(E + "E ! 1", 1);
        isTyped(E + "handle 1 with return x -> () | E a k -> k true end", 2);
        isTyped(E + "handle E ! 1 with return x -> 1 | E a k -> k true + a end", 0);
        isTyped(E + "handle 1 with return x -> fn (y : int) -> x < y | E a k -> k true end", 3, 0, 1);
        isTyped(E + "handle 1 with return x -> fn (y : int) -> E ! y | E a k -> fn (y : int) -> true end", 3, 0, 1);
        isTyped(E + "rec f (x : int) : (int -> int {E}) = fn (y : int) -> y in f 1", 3, 0, 0);
    }

    /** 50 TYPEs in one another in an argument, as many functions in one another as EXPRs. */
    private static void deepTypes() {
        Works works = Works.of("fn (x : " + Works.times(49, "(") + "bool" + Works.times(49, "->unit)") + ") -> 1");
        for (int k = 0; k < 50; k++) {
            Works.due("type(" + k + ")", works.x.type(k), 3);
        }
        Works.due("type(50)", works.x.type(50), 1);
        for (int k = 51; k < 100; k++) {
            Works.due("type(" + k + ")", works.x.type(k), 2);
        }
        Works.due("type(100)", works.x.type(100), 0);
        Works.due("type(101)", works.x.type(101), -1);
        works = Works.of(Works.times(49, "fn (x : bool) -> ") + "()");
        for (int k = 0; k < 98; k++) {
            Works.due("type(" + k + ")", works.x.type(k), k % 2 == 0 ? 3 : 1);
        }
        Works.due("type(98)", works.x.type(98), 2);
        Works.due("type(99)", works.x.type(99), -1);
    }

    private static void withoutAProgram() {
        int[] nodes = {0, 1, -1, Integer.MAX_VALUE, Integer.MIN_VALUE};
        Works none = new Works();
        Works refused = Works.of("1 +");
        Works over = Works.of("fn (x : int) -> x");
        over.put("@");
        over.read();
        for (int k : nodes) {
            Works.due("type(" + k + ") of none", none.x.type(k), -1);
            Works.due("type(" + k + ") of a fault", refused.x.type(k), -1);
            Works.due("type(" + k + ") behind a fault", over.x.type(k), -1);
        }
    }

    /** A text in hand, start() and run() leave the type alone. */
    private static void ofTheLatestProgram() {
        Works works = Works.begun("true");
        works.put("1");
        Works.due("type(0) begun", works.x.type(0), 1);
        works.run(0);
        Works.due("type(0) done", works.x.type(0), 1);
        works.read();
        Works.due("type(0) of the next", works.x.type(0), 0);
    }

    private static void isTyped(String text, int... nodes) {
        Works works = Works.of(text);
        for (int k = 0; k < nodes.length; k++) {
            Works.due("type(" + k + ") of " + text, works.x.type(k), nodes[k]);
        }
        Works.due("type() behind the last of " + text, works.x.type(nodes.length), -1);
        Works.due("type(-1) of " + text, works.x.type(-1), -1);
        Works.due("type(max) of " + text, works.x.type(Integer.MAX_VALUE), -1);
        Works.due("type(min) of " + text, works.x.type(Integer.MIN_VALUE), -1);
    }
}
