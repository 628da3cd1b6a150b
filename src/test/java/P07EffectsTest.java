/** Promise 7: the effects of the program and of the functions in its type. */
public final class P07EffectsTest {
    private static final String EFG =
        "effect E : int -> int; effect F : unit -> bool; effect G : int -> unit; ";

    public static void main(String[] args) {
        has("1", 0, -1);
        has(EFG + "E ! 1", 1, -1);
        has(EFG + "F ! ()", 2, -1);
        has(EFG + "if F ! () then E ! 1 else 2", 3, -1);
        has(EFG + "let x = G ! 1 in E ! 1 + 1", 5, -1);
        has(EFG + "fn (x : int) -> G ! x", 0, 4, -1, -1);
        has(EFG + "let u = E ! 2 in fn (x : int) -> fn (y : int) -> G ! x", 1, 0, -1, 4, -1, -1);
        has(EFG + "(fn (x : int) -> G ! x) (E ! 1)", 5, -1);
        has(EFG + "G ! (if F ! () then 1 else 2)", 6, -1);
        has(EFG + "(let u = F ! () in fn (x : int) -> G ! x) (E ! 1)", 7, -1);
        has(EFG + "fn (f : (int -> int {G, E})) -> f 1", 0, 5, 5, -1, -1, -1);
        has(EFG + "rec f (x : int) : int {F, F} = 1 in f", 0, 2, -1, -1);
        has(EFG + "rec f (x : int) : int {F} = 1 in f 1", 2, -1);
        has(EFG + "handle E ! 1 with return x -> x | E a k -> k a end", 0, -1);
        has(EFG + "handle E ! 1 with {G} return x -> x | E a k -> k a end", 4, -1);
        has(EFG + "handle E ! 1 with {E} return x -> x | E a k -> E ! a end", 1, -1);
        has(EFG + "handle 1 with {G, F} return x -> fn (y : int) -> x | E a k -> k a end", 6, 0, -1, -1);
        has("effect A:int->int;effect B:int->int;effect C:int->int;effect D:int->int;"
            + "effect E:int->int;effect F:int->int;effect G:int->int;effect H:int->int;H ! 1", 128, -1);
        Works works = Works.of("1 +");
        Works.due("effects(-1) without a program", works.x.effects(-1), -1);
        Works.due("effects(0) without a program", works.x.effects(0), -1);
        Works.finish();
    }

    private static void has(String text, int program, int... nodes) {
        Works works = Works.of(text);
        Works.due("effects(-1) of " + text, works.x.effects(-1), program);
        for (int k = 0; k < nodes.length; k++) {
            Works.due("effects(" + k + ") of " + text, works.x.effects(k), nodes[k]);
        }
        Works.due("effects() behind the last of " + text, works.x.effects(nodes.length), -1);
        Works.due("effects(-2) of " + text, works.x.effects(-2), -1);
        Works.due("effects(max) of " + text, works.x.effects(Integer.MAX_VALUE), -1);
    }
}
