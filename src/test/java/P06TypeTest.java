/** Promise 6: the nodes of the program's type as it is written. */
public final class P06TypeTest {
    private static final String E = "effect E : int -> bool; ";

    public static void main(String[] args) {
        isTyped("1", 0);
        isTyped("1 + 2", 0);
        isTyped("1 < 2", 1);
        isTyped("false", 1);
        isTyped("()", 2);
        isTyped("fn (x : int) -> true", 3, 0, 1);
        isTyped("fn (f : (int -> unit)) -> fn (x : bool) -> f", 3, 3, 0, 2, 3, 1, 3, 0, 2);
        isTyped("let f = fn (x : int) -> () in f", 3, 0, 2);
        isTyped("rec f (x : int) : bool = true in f", 3, 0, 1);
        isTyped("(fn (x : int) -> fn (y : unit) -> x) 1", 3, 2, 0);
        isTyped("if true then fn (x : unit) -> 1 else fn (y : unit) -> 2", 3, 2, 0);
        isTyped(E + "E ! 1", 1);
        isTyped(E + "handle 1 with return x -> () | E a k -> k true end", 2);
        isTyped(E + "handle 1 with return x -> fn (y : int) -> x < y | E a k -> k true end", 3, 0, 1);
        isTyped(E + "rec f (x : int) : (int -> int {E}) = fn (y : int) -> y in f 1", 3, 0, 0);
        Works works = Works.of("1 +");
        Works.due("type(0) without a program", works.x.type(0), -1);
        Works.finish();
    }

    private static void isTyped(String text, int... nodes) {
        Works works = Works.of(text);
        for (int k = 0; k < nodes.length; k++) {
            Works.due("type(" + k + ") of " + text, works.x.type(k), nodes[k]);
        }
        Works.due("type() behind the last of " + text, works.x.type(nodes.length), -1);
        Works.due("type(-1) of " + text, works.x.type(-1), -1);
        Works.due("type(max) of " + text, works.x.type(Integer.MAX_VALUE), -1);
        Works.due("type(min) of " + text, works.x.type(Integer.MIN_VALUE), -1);
    }
}
