/** Promise 5, the faults of the checking, 5 to 8. A ^ in a text marks the place that is due. */
public final class P05CheckingFaultTest {
    private static final String E = "effect E : int -> int; ";
    private static final String EF = "effect E : int -> int; effect F : int -> int; ";
    private static final String[] ROWS = {"", "{E}", "{F}", "{F, E, F}"};
    /** What is an int and has just the effects of a row. */
    private static final String[] ACTS = {"1", "E ! 1", "F ! 1", "E ! 1 + F ! 1"};

    public static void main(String[] args) {
        namesBeginAndEnd();
        namesAlike();
        operands();
        conditions();
        branches();
        calls();
        performs();
        placesOfTypes();
        rowsFit();
        whereTypesFit();
        deepFits();
        bodiesOfRec();
        rowsOfRec();
        answers();
        rowsOfReturn();
        rowsOfClauses();
        rowsOfBodies();
        twoClauses();
        whenChecksAreMade();
        severalChecksAtOnce();
        Works.finish();
    }

    private static void namesBeginAndEnd() {
        Works.refusesAt(5, "^x");
        Works.refusesAt(5, "(^x)");
        Works.refusesAt(5, "1 + ((^x))");
        Works.refusesAt(5, "let x = ^x in 1");
        Works.refusesAt(5, "(let x = 1 in x) + ^x");
        Works.refusesAt(5, "(fn (x : int) -> x) ^x");
        Works.reads("rec f (x : int) : int = f x in f 1", 7);
        Works.refusesAt(5, "rec f (x : int) : int = x in ^x");
        Works.refusesAt(5, "(rec f (x : int) : int = f x in f 1) + ^f 1");
        Works.refusesAt(5, "handle ^x with return x -> x end");
        Works.refusesAt(5, E + "handle ^k 1 with return x -> x | E a k -> 1 end");
        Works.refusesAt(5, E + "handle 1 with return x -> ^a | E a k -> 1 end");
        Works.refusesAt(5, E + "handle 1 with return x -> x | E a k -> ^x end");
        Works.refusesAt(5, EF + "handle 1 with return x -> x | E a k -> a | F b j -> ^a end");
        Works.refusesAt(5, EF + "handle 1 with return x -> x | E a k -> a | F b j -> ^k 1 end");
        Works.refusesAt(5, E + "(handle 1 with return x -> x | E a k -> a end) + ^a");
        Works.refusesAt(5, E + "(handle 1 with return x -> x | E a k -> a end) + ^k 1");
        Works.refusesAt(5, "(handle 1 with return x -> x end) + ^x");
    }

    /** The type tells which of the names alike counts; it counts again where the other has ended. */
    private static void namesAlike() {
        Works.reads("let x = true in let x = 1 in x + 1", 7);
        Works.reads("let x = 1 in let y = (let x = true in x) in x + 1", 9);
        Works.reads("let x = 1 in let y = fn (x : bool) -> x in x + 1", 8);
        Works.reads("let x = true in let x = (if x then 1 else 2) in x + 1", 10);
        Works.reads("rec f (f : int) : int = f + 1 in f 1", 7);
        Works.refusesAt(6, "rec f (f : int) : int = ^f 1 in f 1");
        Works.reads(E + "handle 1 with return x -> x | E k k -> k 1 end", 6);
        Works.refusesAt(6, E + "handle 1 with return x -> x | E k k -> ^k end");
        Works.reads(E + "let x = true in handle x with return x -> 1 | E a k -> if x then a else k a end", 11);
    }

    private static void operands() {
        String[] signs = {"+", "-", "*", "<", "="};
        String[] others = {"true", "()", "(fn (x : int) -> x)", "(1 < 2)", "(true)"};
        for (String sign : signs) {
            for (String other : others) {
                Works.refusesAt(6, "^" + other + sign + "1");
                Works.refusesAt(6, "1" + sign + "^" + other);
                Works.refusesAt(6, "^" + other + sign + other);
                Works.refusesAt(6, "(1)" + sign + "^(" + other + ")");
            }
            Works.refusesAt(6, "let x = 1 in (^true" + sign + "x)");
        }
        Works.refusesAt(6, "1 + 1 + ^true + 1");
        Works.refusesAt(6, "1 + 1 * ^true + 1");
        Works.refusesAt(6, "1 + ^true * 2");
        Works.refusesAt(6, "2 * 3 < ^()");
        Works.refusesAt(6, "1 - (2 + ^false)");
    }

    /** Each form is told at its own beginning, here as a condition and as a branch. */
    private static void conditions() {
        String[] others = {"1", "()", "1 + 1", "1 + 2 * 3 - 4", "(1)", "((1))", "(fn (x : int) -> true)",
            "fn (x : int) -> true", "if true then 1 else 2", "let x = 1 in x", "let x = 2 in x * 1",
            "rec f (x : int) : int = x in 1", "rec f (x : int) : int = x in f", "handle 1 with return x -> x end",
            "handle 1 with return x -> x | E a k -> a end", "E ! 1", "E ! (1) + 1", "(fn (x : int) -> x) 1"};
        for (String other : others) {
            Works.refusesAt(6, E + "if ^" + other + " then 2 else 3");
            Works.refusesAt(6, E + "if true then true else ^" + other);
        }
        Works.reads("if 1 < 2 then 2 else 3", 6);
    }

    private static void branches() {
        String[] values = {"1", "true", "()", "fn (x : int) -> x", "fn (x : int) -> true", "fn (x : bool) -> 1",
            "fn (x : int) -> E ! x", "fn (x : (int -> int)) -> 1", "fn (x : (int -> int {E})) -> 1"};
        for (int i = 0; i < values.length; i++) {
            for (int j = 0; j < values.length; j++) {
                String text = E + "if true then " + values[i] + " else ^" + values[j];
                if (i == j) {
                    Works works = Works.of(text.replace("^", ""));
                    Works.due("fault(0) of " + text, works.x.fault(0), 0);
                } else {
                    Works.refusesAt(6, text);
                }
            }
        }
        Works.reads(EF + "fn (f : (int -> int {E, F})) -> fn (g : (int -> int {F, E, F})) -> if true then f else g", 6);
    }

    private static void calls() {
        Works.refusesAt(6, "^1 2");
        Works.refusesAt(6, "^true 2");
        Works.refusesAt(6, "^() 2");
        Works.refusesAt(6, "^(1) 2");
        Works.refusesAt(6, "^(fn (x : int) -> x) 1 2");
        Works.refusesAt(6, "let f = fn (x : int) -> x in ^f 1 2");
        Works.refusesAt(6, "let f = fn (x : int) -> x in ^(f 1) 2");
        Works.refusesAt(6, "let f = fn (x : int) -> x in 1 + ^f 1 2");
        Works.refusesAt(6, "(fn (x : int) -> x) ^true");
        Works.refusesAt(6, "(fn (x : int) -> x) ^(true)");
        Works.refusesAt(6, "(fn (x : int) -> x) ^()");
        Works.refusesAt(6, "let f = fn (x : int) -> x in f ^f");
        Works.refusesAt(6, "let f = fn (x : int) -> fn (y : bool) -> x in f 1 ^2");
        Works.refusesAt(6, "let f = fn (x : int) -> fn (y : bool) -> x in f ^true 2");
    }

    private static void performs() {
        Works.refusesAt(6, E + "E ! ^true");
        Works.refusesAt(6, E + "E ! ^()");
        Works.refusesAt(6, E + "E ! ^(1 < 2)");
        Works.refusesAt(6, E + "1 + E ! ^(fn (x : int) -> x)");
        Works.refusesAt(6, "effect G : unit -> bool; ^G ! () + 1");
        Works.refusesAt(6, "effect G : unit -> bool; G ! ^1");
        Works.reads("effect G : unit -> bool; if G ! () then 1 else 2", 5);
    }

    /** A ( around an EXPR belongs to it, each of them. */
    private static void placesOfTypes() {
        Works.refusesAt(6, "(^true + 1)");
        Works.refusesAt(6, "^(true) + 1");
        Works.refusesAt(6, "1 + ^((true))");
        Works.refusesAt(6, "1 + ^( (true))");
        Works.refusesAt(6, "rec f (x : int) : bool = ^x in 1");
        Works.refusesAt(6, "rec f (x : int) : bool = ^(x) + 1 in 1");
        Works.refusesAt(6, "rec f (x : int) : bool = ^(x + 1) in 1");
        Works.refusesAt(6, "rec f (x : int) : bool = ^x + (1) in 1");
        Works.refusesAt(6, "1 + ^(let x = 1 in true)");
        Works.refusesAt(6, "1 + ^(handle 1 with return x -> true end)");
        Works.refusesAt(6, "1 + ^(if true then true else false)");
        Works.refusesAt(7, E + "rec f (x : int) : int {} = ^(E ! x) in f 1");
        Works.refusesAt(7, E + "rec f (x : int) : int {} = ^((E ! x)) + 1 in f 1");
        Works.refusesAt(7, E + "handle ^(E ! 1) with return x -> x end");
    }

    /** A function with one row fits one with another row if that has all of its effects. */
    private static void rowsFit() {
        for (int one = 0; one < 4; one++) {
            for (int other = 0; other < 4; other++) {
                String less = "(int -> int " + ROWS[one] + ")";
                String more = "(int -> int " + ROWS[other] + ")";
                boolean fits = (one & ~other) == 0;
                fits(less, more, fits);
                fits("(int -> " + less + ")", "(int -> " + more + ")", fits);
                fits("(" + more + " -> int)", "(" + less + " -> int)", fits);
                fits("((" + less + " -> int) -> int)", "((" + more + " -> int) -> int)", fits);
                fits("(" + more + " -> " + less + ")", "(" + less + " -> " + more + ")", fits);
            }
        }
        String[] types = {"int", "bool", "unit", "(int -> int)", "(bool -> int)", "(int -> bool)",
            "((int -> int) -> int)"};
        for (int i = 0; i < types.length; i++) {
            for (int j = 0; j < types.length; j++) {
                fits(types[i], types[j], i == j);
            }
        }
    }

    private static void fits(String given, String asked, boolean fits) {
        String text = EF + "fn (x : " + given + ") -> (fn (y : " + asked + ") -> 1) ^x";
        if (fits) {
            Works.reads(text.replace("^", ""), 5);
        } else {
            Works.refusesAt(6, text);
        }
    }

    /** Not only of a call, but for an if, which wants just the type. */
    private static void whereTypesFit() {
        String none = "fn (x : int) -> x";
        String some = "fn (x : int) -> E ! x";
        Works.reads(E + "(fn (f : (int -> int {E})) -> 1) (" + none + ")", 5);
        Works.refusesAt(6, E + "(fn (f : (int -> int)) -> 1) ^(" + some + ")");
        String g = E + "effect G : (int -> int {E}) -> int; effect H : (int -> int) -> int; ";
        Works.reads(g + "G ! (" + none + ")", 3);
        Works.reads(g + "G ! (" + some + ")", 4);
        Works.refusesAt(6, g + "H ! ^(" + some + ")");
        Works.reads(E + "rec f (x : int) : (int -> int {E}) = " + none + " in 1", 4);
        Works.refusesAt(6, E + "rec f (x : int) : (int -> int) = ^" + some + " in 1");
        Works.reads(E + "handle 1 with return x -> " + some + " | E a k -> " + none + " end", 7);
        Works.refusesAt(6, E + "handle 1 with return x -> " + none + " | E a k -> ^" + some + " end");
        Works.refusesAt(6, E + "if true then " + none + " else ^" + some);
        Works.refusesAt(6, E + "if true then " + some + " else ^" + none);
    }

    /** What stands in an even number of arguments fits as it does by itself, else the other way. */
    private static void deepFits() {
        for (int depth = 1; depth < 49; depth++) {
            String open = Works.times(depth, "(");
            String close = Works.times(depth, "->int)");
            String less = open + "(int->int)" + close;
            String more = open + "(int->int{E})" + close;
            String given = depth % 2 == 0 ? less : more;
            String asked = depth % 2 == 0 ? more : less;
            Works.reads(E + "fn(x:" + given + ")->(fn(y:" + asked + ")->1)x", 5);
            Works.refusesAt(6, E + "fn(x:" + asked + ")->(fn(y:" + given + ")->1)^x");
        }
    }

    private static void bodiesOfRec() {
        Works.refusesAt(6, "rec f (x : int) : bool = ^x in 1");
        Works.refusesAt(6, "rec f (x : int) : int = ^() in 1");
        Works.refusesAt(6, "rec f (x : int) : int = ^f in 1");
        Works.refusesAt(6, "rec f (x : int) : bool = f ^true in 1");
        Works.refusesAt(6, "rec f (x : int) : bool = f x in ^f 1 + 1");
        Works.reads("rec f (x : bool) : unit = f x in f true", 7);
    }

    private static void rowsOfRec() {
        for (int acts = 0; acts < 4; acts++) {
            for (int row = 0; row < 4; row++) {
                String ahead = EF + "rec f (x : int) : int " + ROWS[row] + " = ";
                wants((acts & ~row) == 0, 7, ahead + "^" + ACTS[acts] + " in 1");
            }
        }
        Works.refusesAt(7, E + "rec f (x : int) : int {E} = E ! x in rec g (x : int) : int = ^f x in 1");
        Works.refusesAt(7, E + "rec f (x : int) : int = ^let g = E ! 1 in x in 1");
        Works.reads(E + "rec f (x : int) : (int -> int {E}) = fn (y : int) -> E ! y in 1", 5);
        Works.reads(E + "rec f (x : int) : int = rec g (y : int) : int {E} = E ! y in 1 in 1", 6);
    }

    /** The text is a program, or is refused at its ^. */
    private static void wants(boolean isProgram, int fault, String marked) {
        if (isProgram) {
            String text = marked.replace("^", "");
            Works works = Works.of(text);
            Works.due("fault(0) of " + text, works.x.fault(0), 0);
            Works.due("type(0) of " + text, works.x.type(0), 0);
        } else {
            Works.refusesAt(fault, marked);
        }
    }

    private static void answers() {
        Works.refusesAt(6, E + "handle 1 with return x -> true | E a k -> ^a end");
        Works.refusesAt(6, EF + "handle 1 with return x -> x | E a k -> a | F a k -> ^k end");
        Works.refusesAt(6, E + "handle 1 with return x -> true | E a k -> k ^true end");
        Works.refusesAt(6, E + "handle true with return x -> ^x + 1 | E a k -> a end");
        Works.refusesAt(6, E + "handle 1 with return x -> () | E a k -> if ^k a then () else () end");
        Works.refusesAt(6, "effect G : unit -> bool; handle 1 with return x -> x | G u k -> ^u + 1 end");
        Works.refusesAt(6, "^(handle 1 with return x -> () end) + 1");
        Works.reads("effect G : unit -> bool; handle 1 with return x -> () | G u k -> k true end", 6);
    }

    private static void rowsOfReturn() {
        for (int acts = 0; acts < 4; acts++) {
            for (int row = 0; row < 4; row++) {
                String ahead = EF + "handle 1 with " + ROWS[row] + " return x -> ^" + ACTS[acts];
                boolean within = (acts & ~row) == 0;
                wants(within, 7, ahead + " end");
                wants(within, 7, ahead + " | E a k -> 1 | F a k -> 1 end");
            }
        }
    }

    private static void rowsOfClauses() {
        for (int acts = 0; acts < 4; acts++) {
            for (int row = 0; row < 4; row++) {
                String ahead = EF + "handle 1 with " + ROWS[row] + " return x -> x | E a k -> ";
                boolean within = (acts & ~row) == 0;
                wants(within, 7, ahead + "^" + ACTS[acts] + " end");
                wants(within, 7, ahead + "1 | F a k -> ^" + ACTS[acts] + " end");
            }
        }
        Works.refusesAt(7, E + "handle 1 with {E} return x -> (fn (y : int) -> E ! y) 1 | E a k -> "
            + "handle ^k 1 with return x -> x end end");
    }

    private static void rowsOfBodies() {
        String[] clauses = {"", " | E a k -> 1", " | F a k -> 1", " | E a k -> 1 | F a k -> 1"};
        for (int acts = 0; acts < 4; acts++) {
            for (int row = 0; row < 4; row++) {
                for (int handled = 0; handled < 4; handled++) {
                    boolean within = (acts & ~(row | handled)) == 0;
                    wants(within, 7, EF + "handle ^" + ACTS[acts] + " with " + ROWS[row] + " return x -> x"
                        + clauses[handled] + " end");
                }
            }
        }
        Works.refusesAt(7, E + "(handle ^E ! 1 with return x -> true end) + 1");
    }

    private static void twoClauses() {
        Works.refusesAt(8, E + "handle 1 with return x -> x | E a k -> a | ^E b j -> b end");
        Works.refusesAt(8, EF + "handle 1 with return x -> x | E a k -> a | F a k -> 1 | ^E b j -> y end");
        Works.refusesAt(8, EF + "handle 1 with return x -> x | F a k -> a | ^F a k -> 1 | E b j -> y end");
        Works.refusesAt(8, E + "handle 1 with return x -> x | E a k -> a | ^E b j -> true end");
        Works.refusesAt(8, E + "handle 1 with return x -> x | E a k -> a | ^E b j -> b | E c i -> c end");
        Works.refusesAt(5, E + "handle 1 with return x -> x | E a k -> ^y | E b j -> b end");
        Works.refusesAt(6, E + "handle 1 with return x -> x | E a k -> ^true | E b j -> b end");
        Works.refusesAt(7, E + "handle 1 with return x -> x | E a k -> ^E ! 1 | E b j -> b end");
        Works.refusesAt(7, E + "handle 1 with return x -> ^E ! 1 | E a k -> a | E b j -> b end");
        Works.refusesAt(8, EF + "handle F ! 1 with return x -> x | E a k -> a | ^E b j -> b end");
        Works.reads(E + "handle 1 with return x -> x | E a k -> handle 1 with return x -> x | E a k -> a end end", 7);
        Works.reads(E + "handle handle 1 with return x -> x | E a k -> a end with return x -> x | E a k -> a end", 7);
        Works.reads(E + "(handle 1 with return x -> x | E a k -> a end) + "
            + "(handle 1 with return x -> x | E a k -> a end)", 9);
    }

    /** A check is made as soon as the last EXPR has ended that it speaks of. */
    private static void whenChecksAreMade() {
        Works.refusesAt(5, "true + ^x");
        Works.refusesAt(5, "true * ^x");
        Works.refusesAt(5, "true < ^x");
        Works.refusesAt(5, "true + 1 * ^x");
        Works.refusesAt(6, "^true + 1 + x");
        Works.refusesAt(6, "^true * 1 + x");
        Works.refusesAt(6, "^true + 1 < x");
        Works.refusesAt(6, "^1 x");
        Works.refusesAt(6, "(fn (x : int) -> x) ^true y");
        Works.refusesAt(6, "^(fn (x : int) -> x) 1 y");
        Works.refusesAt(6, "if ^1 then x else y");
        Works.refusesAt(5, "if true then 1 else ^x");
        Works.refusesAt(5, "if true then ^x else true");
        Works.refusesAt(6, "(if true then 1 else ^true) + x");
        Works.refusesAt(6, "rec f (x : int) : int = ^true in y");
        Works.refusesAt(7, E + "rec f (x : int) : int = ^E ! x in y");
        Works.refusesAt(5, E + "handle E ! 1 with return x -> ^y end");
        Works.refusesAt(7, E + "handle E ! 1 with return x -> ^E ! x | E a k -> y end");
        Works.refusesAt(5, EF + "handle F ! 1 with return x -> x | E a k -> ^y end");
        Works.refusesAt(6, EF + "handle F ! 1 with return x -> x | E a k -> ^true end");
        Works.refusesAt(7, EF + "handle F ! 1 with return x -> x | E a k -> ^F ! 1 end");
        Works.refusesAt(7, EF + "let z = handle ^F ! 1 with return x -> x | E a k -> 1 end in y");
    }

    /** Of several that are made at once the one that is told first. */
    private static void severalChecksAtOnce() {
        Works.refusesAt(6, "^true + true");
        Works.refusesAt(6, E + "rec f (x : int) : bool = ^E ! x in y");
        Works.refusesAt(6, E + "handle E ! 1 with return x -> true | E a k -> ^E ! a end");
        Works.refusesAt(7, E + "handle E ! 1 with return x -> ^E ! x end");
        Works.refusesAt(6, "rec f (x : int) : bool = rec g (y : int) : bool = ^x in 1 in 1");
        Works.refusesAt(6, "rec f (x : int) : bool = ^let y = 1 in x in z");
    }
}
