/** Promise 7: the effects of the program and of the functions in its type. */
public final class P07EffectsTest {
    private static final String EFG =
        "effect E : int -> int; effect F : unit -> bool; effect G : int -> unit; ";

    public static void main(String[] args) {
        ofParts();
        ofFunctions();
        ofRec();
        ofHandle();
        eachDeclaration();
        otherNodes();
        withoutAProgram();
        ofTheLatestProgram();
        Works.finish();
    }

    private static void ofParts() {
        has("1", 0, -1);
        has("()", 0, -1);
        has(EFG + "true", 0, -1);
        has(EFG + "E ! 1", 1, -1);
        has(EFG + "F ! ()", 2, -1);
        has(EFG + "E ! 1 + 1", 1, -1);
        has(EFG + "1 + E ! 1", 1, -1);
        has(EFG + "if F ! () then 1 else 2", 2, -1);
        has(EFG + "if true then E ! 1 else 2", 1, -1);
        has(EFG + "if true then 1 else E ! 2", 1, -1);
        has(EFG + "if F ! () then E ! 1 else 2", 3, -1);
        has(EFG + "let x = G ! 1 in 1", 4, -1);
        has(EFG + "let x = 1 in G ! 1", 4, -1);
        has(EFG + "let x = G ! 1 in E ! 1 + 1", 5, -1);
        has(EFG + "(fn (x : int) -> G ! x) (E ! 1)", 5, -1);
        has(EFG + "G ! (if F ! () then 1 else 2)", 6, -1);
        has(EFG + "(let u = F ! () in fn (x : int) -> x) 1", 2, -1);
        has(EFG + "(let u = F ! () in fn (x : int) -> G ! x) (E ! 1)", 7, -1);
    }

    private static void ofFunctions() {
        has(EFG + "fn (x : int) -> x", 0, 0, -1, -1);
        has(EFG + "fn (x : int) -> G ! x", 0, 4, -1, -1);
        has(EFG + "let u = E ! 2 in fn (x : int) -> fn (y : int) -> G ! x", 1, 0, -1, 4, -1, -1);
        has(EFG + "fn (f : (int -> int {G, E})) -> f 1", 0, 5, 5, -1, -1, -1);
        has(EFG + "fn (f : (int -> int {})) -> f", 0, 0, 0, -1, -1, 0, -1, -1);
        has(EFG + "fn (f : ((int -> int {F}) -> (int -> int {G}) {E})) -> 1", 0, 0, 1, 2, -1, -1, 4, -1, -1, -1);
    }

    private static void ofRec() {
        has(EFG + "rec f (x : int) : int {F, F} = 1 in f", 0, 2, -1, -1);
        has(EFG + "rec f (x : int) : int {F} = 1 in f 1", 2, -1);
        has(EFG + "rec f (x : int) : int {E} = E ! x in 1", 0, -1);
        has(EFG + "rec f (x : int) : int {E} = E ! x in G ! 1", 4, -1);
    }

    private static void ofHandle() {
        has(EFG + "handle E ! 1 with return x -> x | E a k -> k a end", 0, -1);
        has(EFG + "handle E ! 1 with {G} return x -> x | E a k -> k a end", 4, -1);
        has(EFG + "handle E ! 1 with {E} return x -> x | E a k -> E ! a end", 1, -1);
        has(EFG + "handle 1 with {E, F, G} return x -> x end", 7, -1);
        has(EFG + "handle 1 with {G, F} return x -> fn (y : int) -> x | E a k -> k a end", 6, 0, -1, -1);
    }

    /** The first one 1, the eighth 128, by themselves and all together. */
    private static void eachDeclaration() {
        StringBuilder eight = new StringBuilder();
        StringBuilder all = new StringBuilder("A ! 1");
        for (char c = 'A'; c <= 'H'; c++) {
            eight.append("effect ").append(c).append(":int->int;");
            all.append(c == 'A' ? "" : " + " + c + " ! 1");
        }
        for (int i = 0; i < 8; i++) {
            char effect = (char) ('A' + i);
            has(eight + "" + effect + " ! 1", 1 << i, -1);
            has(eight + "fn (x : int) -> " + effect + " ! 1", 0, 1 << i, -1, -1);
            has(eight + "fn (f : (int -> int {" + effect + "})) -> 1", 0, 0, 1 << i, -1, -1, -1);
        }
        has(eight + all.toString(), 255, -1);
        has(eight + "fn (x : int) -> " + all, 0, 255, -1, -1);
    }

    /** NONE asks for the program, any other node but a function has none. */
    private static void otherNodes() {
        Works works = Works.of(EFG + "let u = F ! () in fn (x : int) -> G ! x");
        int[] others = {-2, 1, 2, 3, Integer.MAX_VALUE, Integer.MIN_VALUE};
        Works.due("effects(NONE)", works.x.effects(FiberWorks.NONE), 2);
        Works.due("effects(0)", works.x.effects(0), 4);
        for (int k : others) {
            Works.due("effects(" + k + ")", works.x.effects(k), -1);
        }
    }

    private static void withoutAProgram() {
        int[] nodes = {-1, 0, 1, Integer.MAX_VALUE, Integer.MIN_VALUE};
        Works none = new Works();
        Works refused = Works.of("1 +");
        Works over = Works.of(EFG + "fn (x : int) -> E ! x");
        over.put("@");
        over.read();
        for (int k : nodes) {
            Works.due("effects(" + k + ") of none", none.x.effects(k), -1);
            Works.due("effects(" + k + ") of a fault", refused.x.effects(k), -1);
            Works.due("effects(" + k + ") behind a fault", over.x.effects(k), -1);
        }
    }

    /** A text in hand, start() and run() leave the effects alone. */
    private static void ofTheLatestProgram() {
        Works works = Works.begun(EFG + "F ! ()");
        works.put(EFG + "E ! 1");
        Works.due("effects(-1) begun", works.x.effects(-1), 2);
        works.run(1);
        Works.due("effects(-1) ended", works.x.effects(-1), 2);
        works.read();
        Works.due("effects(-1) of the next", works.x.effects(-1), 1);
    }

    private static void has(String text, int program, int... nodes) {
        Works works = Works.of(text);
        Works.due("effects(-1) of " + text, works.x.effects(-1), program);
        for (int k = 0; k < nodes.length; k++) {
            Works.due("effects(" + k + ") of " + text, works.x.effects(k), nodes[k]);
        }
        Works.due("effects() behind the last of " + text, works.x.effects(nodes.length), -1);
        Works.due("effects(-2) of " + text, works.x.effects(-2), -1);
        Works.due("effects(max) of " + text, works.x.effects(Integer.MAX_VALUE), -1);
    }
}
