/** Promises 4 and 5, the limits: 8 declarations, 50 EXPRs and 50 TYPEs in one another, 600 nodes. */
public final class P04LimitsTest {
    private static final String E = "effect E : int -> int; ";

    public static void main(String[] args) {
        declarations();
        exprsInParentheses();
        exprsInEachForm();
        deepestOfEachForm();
        fiftyFirstExpr();
        typesInOneAnother();
        typesInEachPlace();
        typesAndExprsCountApart();
        whatIsOneNode();
        whatIsNoNode();
        sixHundredOfEachKind();
        sixHundredFirstOfEachKind();
        whenNodesAreMade();
        manyTypes();
        longestTexts();
        Works.finish();
    }

    private static String declared(int count) {
        StringBuilder text = new StringBuilder();
        for (int i = 0; i < count; i++) {
            text.append("effect ").append((char) ('A' + i)).append(":int->int;");
        }
        return text.toString();
    }

    private static void declarations() {
        for (int count = 0; count <= 8; count++) {
            Works.reads(declared(count) + "1", 1);
            Works.refusesAt(1, declared(count) + "^");
        }
        Works.refusesAt(4, declared(8) + "^effect I : int -> int; 1");
        Works.refusesAt(4, declared(8) + "^effect");
        Works.refusesAt(4, declared(8) + "\n ^effect A : int -> int; 1");
        Works.refusesAt(2, declared(8) + "^@");
        Works.refusesAt(3, declared(7) + "effect ^A : int -> int; 1");
        Works.refusesAt(1, declared(8) + "1 ^effect I : int -> int; 1");
    }

    private static void exprsInParentheses() {
        Works.reads(Works.times(49, "(") + "1" + Works.times(49, ")"), 1);
        Works.reads(Works.times(49, "(") + "()" + Works.times(49, ")"), 1);
        Works.reads(Works.times(49, "let a = 1 in ") + "a", 99);
        Works.reads(Works.times(49, "1+(") + "1" + Works.times(49, ")"), 99);
        Works.reads(Works.times(49, "1+1*(") + "1" + Works.times(49, ")"), 197);
        Works.refusesAt(4, Works.times(50, "(") + "^1" + Works.times(50, ")"));
        Works.refusesAt(4, Works.times(50, "(") + "^()" + Works.times(50, ")"));
        Works.refusesAt(4, Works.times(49, "1+(") + "1+(^1" + Works.times(50, ")"));
        Works.refusesAt(4, Works.times(49, "let a = 1 in ") + "let b = ^2 in b");
        Works.reads(Works.times(40, "(1)+") + Works.times(49, "(") + "1" + Works.times(49, ")"), 81);
    }

    /** Each form stands in 48 others, so that what it holds itself is the 50th and may hold none. */
    private static void exprsInEachForm() {
        String open = Works.times(48, "(");
        String close = Works.times(48, ")");
        String[] forms = {"let x = # in 1", "let x = 1 in #", "rec f (x : int) : int = # in 1",
            "rec f (x : int) : int = 1 in #", "if # = 1 then 1 else 1", "if true then # else 1",
            "if true then 1 else #", "fn (x : int) -> #", "handle # with return x -> 1 end",
            "handle 1 with return x -> # end", "handle 1 with return x -> x | E a k -> # end",
            "1 + 1 * (#)", "E ! (#)", "E ! 1 < (#)", "(#)"};
        for (String form : forms) {
            int hole = form.indexOf('#');
            String ahead = E + open + form.substring(0, hole);
            Works works = Works.of(ahead + "1" + form.substring(hole + 1) + close);
            Works.due("fault(0) of " + form, works.x.fault(0), 0);
            Works.refusesAt(4, ahead + "(^1)" + form.substring(hole + 1) + close);
            Works.refusesAt(4, ahead + "(^");
            Works.refusesAt(4, ahead + "let y = ^");
        }
        Works.refusesAt(6, open + "^1 (1)" + close);
        Works.refusesAt(4, open + "1 ((^1))" + close);
    }

    /** 50 EXPRs in one another, 49 of them of one form, are read and worked. */
    private static void deepestOfEachForm() {
        nests("let x=", "7", " in x", 7, 0, 0);
        nests("let x=1 in ", "x", "", 1, 0, 0);
        nests("rec f(x:int):int=", "x", " in f 3", 3, 49, 49);
        nests("rec f(x:int):int=x in ", "f 3", "", 3, 1, 49);
        nests("if true then ", "4", " else 1", 4, 0, 0);
        nests("if false then 1 else ", "5", "", 5, 0, 0);
        nests("if ", "true", " then true else false", 1, 0, 0);
        nests("fn(x:int)->", "x", "", 0, 0, 1);
        nests("handle ", "1", " with return x->x end", 1, 0, 49);
        nests("handle 1 with return x->", "x", " end", 1, 0, 49);
        nests("2-3*(", "1", ")", 132493151, 0, 0);
    }

    private static void nests(String ahead, String inner, String behind, int value, int fuel, int things) {
        String text = Works.times(49, ahead) + inner + Works.times(49, behind);
        Works.ends(text, 2, value, fuel, things, 0);
    }

    /** At the place of a 51st one nothing but a word that is none comes ahead of it. */
    private static void fiftyFirstExpr() {
        String fifty = Works.times(50, "(");
        Works.refusesAt(4, fifty + "^");
        Works.refusesAt(4, fifty + "  \n^");
        Works.refusesAt(4, fifty + " ^+");
        Works.refusesAt(4, fifty + "^in");
        Works.refusesAt(4, fifty + "^E ! 1");
        Works.refusesAt(4, fifty + "^let let");
        Works.refusesAt(2, fifty + "^@");
        Works.refusesAt(2, fifty + "^abcdefghijklm");
        Works.refusesAt(1, Works.times(49, "(") + "^");
        Works.refusesAt(1, Works.times(49, "(") + "^+");
        Works.refusesAt(3, Works.times(49, "(") + "^E ! 1");
        Works.refusesAt(1, Works.times(49, "let a = 1 in ") + "let b ^2");
        Works.refusesAt(4, Works.times(49, "let a = 1 in ") + "if ^true then 1 else 1");
        Works.refusesAt(4, Works.times(49, "let a = 1 in ") + "handle ^1 with return x -> x end");
        Works.refusesAt(4, Works.times(49, "let a = 1 in ") + "fn (x : int) -> ^1");
        Works.refusesAt(4, Works.times(49, "let a = 1 in ") + "rec f (x : int) : int = ^1");
    }

    private static String leftType(int count) {
        return Works.times(count - 1, "(") + "int" + Works.times(count - 1, "->int)");
    }

    private static String rightType(int count) {
        return Works.times(count - 1, "(int->") + "int" + Works.times(count - 1, ")");
    }

    private static void typesInOneAnother() {
        String ahead = "fn (x : ";
        Works.reads(ahead + leftType(50) + ") -> 1", 2);
        Works.reads(ahead + rightType(50) + ") -> 1", 2);
        Works.reads(ahead + "(" + leftType(49) + "->" + rightType(49) + ")) -> 1", 2);
        Works.refusesAt(4, ahead + Works.times(50, "(") + "^int" + Works.times(50, "->int)") + ") -> 1");
        Works.refusesAt(4, ahead + Works.times(49, "(int->") + "(^int->int)" + Works.times(49, ")") + ") -> 1");
        Works.refusesAt(4, ahead + Works.times(49, "(") + "(^int->int)");
        String fifty = ahead + Works.times(50, "(");
        Works.refusesAt(4, fifty + "^");
        Works.refusesAt(4, fifty + " \n^");
        Works.refusesAt(4, fifty + "^1");
        Works.refusesAt(4, fifty + "^)");
        Works.refusesAt(4, fifty + "^(");
        Works.refusesAt(2, fifty + "^@");
        Works.refusesAt(1, ahead + Works.times(49, "(") + "^");
        Works.refusesAt(1, ahead + Works.times(49, "(") + "^1");
    }

    private static void typesInEachPlace() {
        String[] forms = {"effect E : # -> int; 1", "effect E : int -> #; 1", "fn (x : #) -> 1",
            "rec f (x : #) : int = 1 in 1", "rec f (x : int) : # = f x in 1"};
        for (String form : forms) {
            int hole = form.indexOf('#');
            String ahead = form.substring(0, hole);
            String behind = form.substring(hole + 1);
            String[] types = {leftType(50), rightType(50)};
            for (String type : types) {
                Works works = Works.of(ahead + type + behind);
                Works.due("fault(0) of " + form, works.x.fault(0), 0);
            }
            Works.refusesAt(4, ahead + Works.times(50, "(") + "^int" + Works.times(50, "->int)") + behind);
            Works.refusesAt(4, ahead + Works.times(49, "(int->") + "(^int->int)" + Works.times(49, ")") + behind);
        }
    }

    private static void typesAndExprsCountApart() {
        Works.reads(Works.times(48, "(") + "fn (x : " + leftType(50) + ") -> 1" + Works.times(48, ")"), 2);
        Works.reads("fn(x:" + leftType(50) + ")->(fn(y:" + leftType(50) + ")->1)x", 5);
        Works.refusesAt(4, Works.times(49, "(") + "fn (x : " + leftType(50) + ") -> ^1");
    }

    private static void whatIsOneNode() {
        String[] one = {"1", "true", "false", "()", "( )"};
        for (String text : one) {
            Works.reads(text, 1);
        }
        Works.reads("1 + 2", 3);
        Works.reads("1 - 2", 3);
        Works.reads("1 * 2", 3);
        Works.reads("1 < 2", 3);
        Works.reads("1 = 2", 3);
        Works.reads("1 + 2 * 3", 5);
        Works.reads("let x = 1 in x", 3);
        Works.reads("if true then 1 else 2", 4);
        Works.reads("fn (x : int) -> x", 2);
        Works.reads("rec f (x : int) : int = f x in f 1", 7);
        Works.reads("fn (f : (int -> (int -> int))) -> f 1 2", 6);
        Works.reads(E + "E ! 1", 2);
        Works.reads(E + "E ! (E ! (E ! 1))", 4);
        Works.reads("handle 1 with return x -> x end", 3);
    }

    private static void whatIsNoNode() {
        Works.reads("((1))", 1);
        Works.reads("handle 1 with {} return x -> x end", 3);
        Works.reads(E + "handle 1 with {E, E} return x -> x | E a k -> a end", 4);
        Works.reads(declared(8) + "1", 1);
        Works.reads("fn (x : (int -> (bool -> unit))) -> 1", 2);
    }

    /** An EXPR in parentheses, an int with so many nodes. */
    private static String filled(int nodes) {
        if (nodes % 2 == 1) {
            return "(1" + Works.times(nodes / 2, "+1") + ")";
        }
        return "(if true then 1 else 1" + Works.times(nodes / 2 - 2, "+1") + ")";
    }

    private static void sixHundredOfEachKind() {
        Works.reads(filled(598) + "+1", 600);
        Works.reads(filled(598) + "-1", 600);
        Works.reads(filled(598) + "*1", 600);
        Works.reads(filled(598) + "<1", 600);
        Works.reads(filled(598) + "=1", 600);
        Works.reads("let x = " + filled(598) + " in x", 600);
        Works.reads("let x = " + filled(598) + " in ()", 600);
        Works.reads("let x = " + filled(598) + " in true", 600);
        Works.reads("let x = " + filled(598) + " in false", 600);
        Works.reads("rec f (x : int) : int = " + filled(598) + " in f", 600);
        Works.reads("fn (x : int) -> " + filled(599), 600);
        Works.reads("handle " + filled(598) + " with return x -> x end", 600);
        Works.reads(E + "E ! " + filled(599), 600);
        Works.reads("(fn (x : int) -> x) " + filled(597), 600);
        Works.reads("if true then " + filled(597) + " else 1", 600);
    }

    /** 600 nodes stand ahead of each of these, so that its first one is a 601st. */
    private static void sixHundredFirstOfEachKind() {
        String full = E + "let x = 1 in " + filled(598);
        String[] first = {"1^", "1 ^)", "true^", "false ^+ 1", "()^", "( )^", "x^", "x ^!",
            "(let ^y = 1 in 1)", "(let ^", "(let ^1", "(rec ^f (y : int) : int = 1 in 1)", "(if ^true then 1 else 1)",
            "(fn ^(y : int) -> 1)", "(handle ^1 with return y -> y end)", "E ! ^1", "E ! ^", "E ! ^)", "E ! ^F"};
        for (String text : first) {
            Works.refusesAt(4, full + "+" + text);
            Works.refusesAt(4, full + "<" + text);
            Works.refusesAt(4, full + "*" + text);
        }
        String[] atoms = {"1^", "true ^1", "false ^)", "()^", "( ) ^in", "x^", "x ^F"};
        for (String atom : atoms) {
            Works.refusesAt(4, full + " " + atom);
        }
        Works.refusesAt(2, full + "+1 ^@");
        Works.refusesAt(2, full + "+(let ^@");
        Works.refusesAt(2, full + "+E ! ^1234567890");
        Works.refusesAt(1, full + "^)");
        Works.refusesAt(1, full + "+^)");
        Works.refusesAt(3, full + "+^F ! 1");
        Works.refusesAt(1, full + "+E ^1");
    }

    /** What has two parts is a node when the second one has been read. */
    private static void whenNodesAreMade() {
        String[] signs = {"+", "-", "*", "<", "=", " "};
        for (String sign : signs) {
            Works.refusesAt(4, filled(599) + sign + "1^");
            Works.refusesAt(4, filled(599) + sign + "1 ^)");
            Works.refusesAt(4, filled(599) + sign + "(1)^");
            Works.refusesAt(1, filled(599) + sign + "(1 ^in");
            Works.refusesAt(1, filled(599) + sign + "^in");
            Works.refusesAt(4, filled(600) + sign + "1 ^)");
            Works.refusesAt(4, filled(600) + sign + "(1^");
            Works.refusesAt(4, filled(600) + sign + "(let ^x");
        }
        nodesOfSeveralSigns();
    }

    /** A SUM goes on behind *, what is compared goes on behind + and -, and a call behind no sign. */
    private static void nodesOfSeveralSigns() {
        Works.refusesAt(4, filled(597) + "+1*1^");
        Works.refusesAt(4, filled(597) + "+1*1 ^)");
        Works.refusesAt(4, filled(597) + "+1+1^");
        Works.refusesAt(4, filled(599) + "+1 ^+ 1");
        Works.refusesAt(4, filled(599) + "+1 ^- 1");
        Works.refusesAt(4, filled(599) + "*1 ^+ 1");
        Works.refusesAt(4, filled(599) + "*1 ^* 1");
        Works.refusesAt(4, filled(599) + "+1 ^< 1");
        Works.refusesAt(4, filled(599) + "<1 ^< 1");
        Works.refusesAt(4, filled(599) + "=1 ^< 1");
        Works.refusesAt(4, filled(599) + "+1*1^");
        Works.refusesAt(4, filled(599) + "<1+1^");
        Works.refusesAt(4, filled(599) + "<1-1^");
        Works.refusesAt(4, filled(599) + "=1*1^");
        Works.refusesAt(4, filled(599) + "+1 1^");
        Works.refusesAt(4, filled(599) + " 1 ^1");
        Works.refusesAt(4, filled(595) + "<1+1*1^");
        Works.refusesAt(4, "1" + Works.times(299, "+1") + "+1^");
    }

    /** Each function's type holds those of all that were told ahead of it. */
    private static void manyTypes() {
        StringBuilder text = new StringBuilder();
        for (int i = 0; i < 9; i++) {
            text.append("let f=").append(Works.times(9, "fn(x:int)->")).append(i == 0 ? "1" : "f").append(" in ");
        }
        Works works = Works.of(text + "f");
        Works.due("fault(0) of many types", works.x.fault(0), 0);
        Works.due("type(160) of many types", works.x.type(160), 3);
        Works.due("type(161) of many types", works.x.type(161), 0);
        Works.due("type(162) of many types", works.x.type(162), 0);
        Works.due("type(163) of many types", works.x.type(163), -1);
    }

    /** Each byte of the longest text is a word. */
    private static void longestTexts() {
        Works.refusesAt(1, "^" + Works.times(1500, ")"));
        Works.refusesAt(4, Works.times(50, "(") + "^" + Works.times(1450, "("));
        Works.refusesAt(1, "1" + Works.times(297, "+1") + "^" + Works.times(905, "}"));
        Works.refusesAt(6, "^" + Works.times(300, "1 ").trim());
        Works.refusesAt(4, "1" + Works.times(299, "+1") + "*1^" + Works.times(899, "+"));
    }
}
