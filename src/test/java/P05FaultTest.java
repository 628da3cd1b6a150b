/** Promise 5: the fault of the latest read() and its place. A ^ in a text marks that place. */
public final class P05FaultTest {
    private static final String E = "effect E : int -> int; ";
    private static final String EF = "effect E : int -> int; effect F : unit -> bool; ";

    public static void main(String[] args) {
        otherQuestions();
        cannotStand();
        noWord();
        effects();
        readingLimits();
        firstInReading();
        names();
        wrongTypes();
        deepFits();
        beyondRow();
        twoClauses();
        orderOfChecks();
        Works.finish();
    }

    private static void otherQuestions() {
        Works works = Works.of("1 + x");
        Works.due("fault(2)", works.x.fault(2), -1);
        Works.due("fault(-1)", works.x.fault(-1), -1);
        Works.due("fault(0)", works.x.fault(0), 5);
        Works.due("fault(1)", works.x.fault(1), 4);
        works.put("1");
        Works.due("fault(0) until read()", works.x.fault(0), 5);
        works.read();
        Works.due("fault(0) of a program", works.x.fault(0), 0);
        Works.due("fault(1) of a program", works.x.fault(1), -1);
    }

    private static void cannotStand() {
        String[] texts = {"^", "  \n^", "1 ^)", "let x = ^in 1", "let x = 1^", "let ^in = 1 in 1",
            "1 < 2 ^< 3", "1 = 2 ^= 3", "1 + ^", "1 + ^let x = 1 in x", "1 * ^+ 2",
            "(1^", "(1 ^, 2)", "^)", "if 1 ^else", "fn ^x", "fn (x ^) -> x", "fn (x : ^foo) -> x",
            "fn (x : int) ^= x", "fn (x : (int ^, int)) -> x", "effect ^e : int -> int; 1",
            "effect E ^int", "effect E : int ^; 1", "effect E : int -> int ^1", "1 ^effect",
            "handle 1 ^return x -> x end", "handle 1 with ^x -> x end", "handle 1 with return x -> x ^",
            "handle 1 with return x -> x | ^e a k -> 1 end", "^->", "1 ^-> 2", "^| 1", "true ^!"};
        for (String text : texts) {
            Works.refusesAt(1, text);
        }
        Works.refusesAt(1, E + "E ^1");
        Works.refusesAt(1, E + "E ! ^E ! 1");
        Works.refusesAt(1, E + "E ! 1 ^1");
        Works.refusesAt(1, E + "(fn (x : int) -> x) ^E ! 1");
        Works.refusesAt(1, E + "fn (x : (int -> int {^,E})) -> 1");
        Works.refusesAt(1, E + "fn (x : (int -> int {E,^})) -> 1");
        Works.refusesAt(1, E + "fn (x : (int -> int {E ^E})) -> 1");
        Works.refusesAt(1, E + "handle 1 with return x -> x | E a ^-> 1 end");
        Works.refusesAt(1, "rec f (x : int) ^= x in 1");
        Works.refusesAt(1, "rec f (x : int) : int ^in 1");
    }

    private static void noWord() {
        Works.refusesAt(2, "^@");
        Works.refusesAt(2, "1 ^> 2");
        Works.refusesAt(2, "1^\t");
        Works.refusesAt(2, "1 ^\r");
        Works.refusesAt(2, "1 + ^\0");
        Works.refusesAt(2, "1 + ^\u00ff");
        Works.refusesAt(2, "^_a");
        Works.refusesAt(2, "^abcdefghijklm");
        Works.refusesAt(2, "effect ^Abcdefghijklm : int -> int; 1");
        Works.refusesAt(2, "^1234567890");
        Works.refusesAt(2, "^0000000001");
        Works.refusesAt(2, "let x ^abcdefghijklm");
        Works.refusesAt(2, "1 ^@");
    }

    private static void effects() {
        Works.refusesAt(3, "^E ! 1");
        Works.refusesAt(3, E + "^F ! 1");
        Works.refusesAt(3, E + "effect ^E : int -> int; 1");
        Works.refusesAt(3, "effect E : (int -> int {^F}) -> int; effect F : int -> int; 1");
        Works.refusesAt(3, E + "fn (x : (int -> int {E, ^Ee})) -> 1");
        Works.refusesAt(3, E + "handle 1 with {^G} return x -> x end");
        Works.refusesAt(3, E + "handle 1 with return x -> x | ^G a k -> 1 end");
        Works.refusesAt(3, E + "rec f (x : int) : int {^G} = 1 in 1");
        Works.refusesAt(3, "^E");
    }

    private static void readingLimits() {
        StringBuilder eight = new StringBuilder();
        for (char c = 'A'; c < 'I'; c++) {
            eight.append("effect ").append(c).append(":int->int;");
        }
        Works.refusesAt(4, eight + "^effect I : int -> int; 1");
        Works.refusesAt(4, eight + "^effect");
        Works.refusesAt(4, Works.times(50, "(") + "^1" + Works.times(50, ")"));
        Works.refusesAt(4, Works.times(50, "(") + "^");
        Works.refusesAt(4, Works.times(50, "(") + " ^+");
        Works.refusesAt(2, Works.times(50, "(") + "^@");
        Works.refusesAt(4, Works.times(49, "let a = 1 in ") + "let b = ^2 in b");
        nestings();
        String deepType = "fn (x : " + Works.times(50, "(");
        Works.refusesAt(4, deepType + "^int");
        Works.refusesAt(4, deepType + "^");
        Works.refusesAt(4, deepType + "^1");
        nodeLimits();
    }

    /** Each form holds 48 others, so that what it holds itself is the 50th and may hold nothing. */
    private static void nestings() {
        String open = Works.times(48, "(");
        String close = Works.times(48, ")");
        String[] forms = {"let x = # in 1", "let x = 1 in #", "rec f (x : int) : int = # in 1",
            "rec f (x : int) : int = 1 in #", "if # = 1 then 1 else 1", "if true then # else 1",
            "if true then 1 else #", "fn (x : int) -> #", "handle # with return x -> 1 end",
            "handle 1 with return x -> # end", "handle 1 with return x -> x | E a k -> # end",
            "1 + 1 * (#)", "E ! (#)", "E ! 1 < (#)"};
        for (String form : forms) {
            int hole = form.indexOf('#');
            String ahead = E + open + form.substring(0, hole);
            Works works = Works.of(ahead + "1" + form.substring(hole + 1) + close);
            Works.due("fault(0) of " + form, works.x.fault(0), 0);
            Works.refusesAt(4, ahead + "(^1)" + form.substring(hole + 1) + close);
        }
    }

    private static void nodeLimits() {
        String full = "if true then 1 else 1" + Works.times(298, "+1");
        Works.refusesAt(4, full + "*1^");
        Works.refusesAt(4, full + "*1 ^)");
        Works.refusesAt(4, full + "*1 ^+ 1");
        Works.refusesAt(2, full + "*1 ^@");
        Works.refusesAt(4, full + " 1^");
        Works.refusesAt(4, "if true then 1 else 1" + Works.times(297, "+1") + "+1*1 ^)");
        Works.refusesAt(4, "1" + Works.times(299, "+1") + "+1^");
        Works.refusesAt(4, "(" + full + ")+(let ^x = 1 in 1)");
        Works.refusesAt(4, E + "(" + full + ")+E ! ^1");
        Works.refusesAt(3, "(" + full + ")+^E ! 1");
        Works.refusesAt(1, "(" + full + ")^,");
        Works.refusesAt(4, "(1" + Works.times(299, "+1") + ")+() ^)");
    }

    private static void firstInReading() {
        Works.refusesAt(1, "1 ^, @");
        Works.refusesAt(3, "^E ! @");
        Works.refusesAt(1, "x + true + (^");
        Works.refusesAt(1, "let x = y in (1 ^then");
    }

    private static void names() {
        Works.refusesAt(5, "^x");
        Works.refusesAt(5, "(^x)");
        Works.refusesAt(5, "let x = ^x in 1");
        Works.refusesAt(5, "(let x = 1 in x) + ^x");
        Works.refusesAt(5, "(fn (x : int) -> x) ^x");
        Works.refusesAt(5, "rec f (x : int) : int = x in ^x");
        Works.refusesAt(5, "handle ^x with return x -> x end");
        Works.refusesAt(5, E + "handle 1 with return x -> x | E a k -> ^x end");
        Works.refusesAt(5, E + "(handle 1 with return x -> x | E a k -> a end) + ^a");
        Works.refusesAt(5, "let abc = 1 in ^ab");
        Works.refusesAt(5, "let ab = 1 in ^abc");
    }

    private static void wrongTypes() {
        String[] texts = {"^true + 1", "1 + ^true", "^() * ()", "1 - (2 + ^false)", "1 < ^true",
            "^true = true", "(^true + 1)", "^(true) + 1", "1 + ^((true))", "if ^1 then 2 else 3",
            "if ^(1) then 2 else 3", "if true then 1 else ^()", "if true then () else ^(1)", "^1 2",
            "^(1) 2", "^(fn (x : int) -> x) 1 2", "(fn (x : int) -> x) ^true",
            "(fn (x : int) -> x) ^(true)", "1 + ^true * 2", "^(1 < 2) + 1",
            "1 + ^(1 < 2)", "rec f (x : int) : bool = ^x in 1", "rec f (x : int) : bool = ^(x) + 1 in 1",
            "rec f (x : int) : bool = ^(x + 1) in 1", "let f = fn (x : int) -> x in f ^f"};
        for (String text : texts) {
            Works.refusesAt(6, text);
        }
        Works.refusesAt(6, E + "E ! ^true");
        Works.refusesAt(6, E + "E ! ^(1 < 2)");
        Works.refusesAt(6, E + "handle 1 with return x -> true | E a k -> ^a end");
        Works.refusesAt(6, E + "handle 1 with return x -> true | E a k -> k ^true end");
        Works.refusesAt(6, E + "if true then fn (x : int) -> 1 else ^fn (x : int) -> E ! x");
        Works.refusesAt(6, E + "(fn (f : (int -> int)) -> 1) ^(fn (x : int) -> E ! x)");
        Works.refusesAt(6, E + "(fn (f : ((int -> int {E}) -> int)) -> 1) ^(fn (g : (int -> int)) -> 1)");
        Works.reads(E + "(fn (f : (int -> int {E})) -> 1) (fn (x : int) -> x)", 5);
        Works.reads(E + "(fn (f : ((int -> int) -> int)) -> 1) (fn (g : (int -> int {E})) -> 1)", 5);
        Works.reads(EF + "fn (f : (int -> int {E, F})) -> fn (g : (int -> int {F, E, F})) -> "
                + "if true then f else g", 6);
    }

    /** What stands in an even number of arguments fits as it does by itself, else the other way. */
    private static void deepFits() {
        for (int depth = 1; depth < 49; depth++) {
            String open = Works.times(depth, "(");
            String close = Works.times(depth, "->int)");
            String less = open + "(int->int)" + close;
            String more = open + "(int->int{E})" + close;
            String given = depth % 2 == 0 ? less : more;
            String asked = depth % 2 == 0 ? more : less;
            Works.reads(E + "fn(x:" + given + ")->(fn(y:" + asked + ")->1)x", 5);
            Works.refusesAt(6, E + "fn(x:" + asked + ")->(fn(y:" + given + ")->1)^x");
        }
    }

    private static void beyondRow() {
        Works.refusesAt(7, E + "rec f (x : int) : int = ^E ! x in f 1");
        Works.refusesAt(7, E + "rec f (x : int) : int {} = ^(E ! x) in f 1");
        Works.refusesAt(7, E + "handle ^E ! 1 with return x -> x end");
        Works.refusesAt(7, E + "handle 1 with return x -> ^E ! x end");
        Works.refusesAt(7, E + "handle 1 with return x -> x | E a k -> ^E ! a end");
        Works.refusesAt(7, EF + "handle ^if F ! () then 1 else 2 with return x -> x | E a k -> k a end");
        Works.refusesAt(7, E + "rec f (x : int) : int {E} = E ! x in rec g (x : int) : int = ^f x in 1");
        Works.refusesAt(7, E + "handle 1 with {E} return x -> (fn (y : int) -> E ! y) 1 | E a k -> "
                + "handle ^k 1 with return x -> x end end");
        Works.reads(E + "handle E ! 1 with {E} return x -> E ! x | E a k -> E ! (k a) end", 9);
        Works.reads(E + "handle E ! 1 with {E} return x -> x end", 4);
        Works.reads(E + "rec f (x : int) : int {E} = E ! x in 1", 4);
        Works.reads(E + "rec f (x : int) : (int -> int {E}) = fn (y : int) -> E ! y in 1", 5);
    }

    private static void twoClauses() {
        Works.refusesAt(8, E + "handle 1 with return x -> x | E a k -> a | ^E b j -> b end");
        Works.refusesAt(8, EF + "handle 1 with return x -> x | E a k -> a | F a k -> 1 | ^E b j -> y end");
        Works.refusesAt(5, E + "handle 1 with return x -> x | E a k -> ^y | E b j -> b end");
        Works.refusesAt(8, E + "handle 1 with return x -> x | E a k -> a | ^E b j -> true end");
        Works.reads(E + "handle 1 with return x -> x | E a k -> "
                + "handle 1 with return x -> x | E a k -> a end end", 7);
    }

    private static void orderOfChecks() {
        Works.refusesAt(5, "true + ^x");
        Works.refusesAt(6, "^true + true");
        Works.refusesAt(6, "^1 x");
        Works.refusesAt(6, "if ^1 then x else y");
        Works.refusesAt(5, "if true then 1 else ^x");
        Works.refusesAt(6, E + "rec f (x : int) : bool = ^E ! x in y");
        Works.refusesAt(7, E + "rec f (x : int) : int = ^E ! x in y");
        Works.refusesAt(6, E + "handle E ! 1 with return x -> true | E a k -> ^E ! a end");
        Works.refusesAt(7, E + "handle E ! 1 with return x -> ^E ! x | E a k -> y end");
        Works.refusesAt(7, E + "handle E ! 1 with return x -> ^E ! x end");
        Works.refusesAt(5, EF + "handle F ! () with return x -> x | E a k -> ^y end");
        Works.refusesAt(7, EF + "handle F ! () with return x -> x | E a k -> ^if F ! () then true else false end");
        Works.refusesAt(7, E + "(handle ^E ! 1 with return x -> true end) + 1");
    }
}
