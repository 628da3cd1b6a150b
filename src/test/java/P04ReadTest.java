/** Promise 4: the text is read and checked, how many NODES it has; what runs is over. */
public final class P04ReadTest {
    public static void main(String[] args) {
        nodes();
        words();
        grammar();
        limits();
        readsAnewBehindFaults();
        namesAreGone();
        textIsEmptyThen();
        nothingRunsThen();
        Works.finish();
    }

    private static void nodes() {
        Works.reads("1", 1);
        Works.reads("()", 1);
        Works.reads("( )", 1);
        Works.reads("((1))", 1);
        Works.reads("true", 1);
        Works.reads("1 + 2 * 3", 5);
        Works.reads("1 < 2", 3);
        Works.reads("let x = 1 in x", 3);
        Works.reads("if true then 1 else 2", 4);
        Works.reads("fn (x : int) -> x", 2);
        Works.reads("rec f (x : int) : int = f x in f 1", 7);
        Works.reads("effect E : int -> int; E ! 1", 2);
        Works.reads("effect E : int -> int; handle 1 with return x -> x | E a k -> a end", 4);
        Works.reads("handle 1 with return x -> x end", 3);
        Works.reads("handle 1 with {} return x -> x end", 3);
    }

    private static void words() {
        Works.reads("\n\n 1 \n", 1);
        Works.reads("1+2*3-4", 7);
        Works.gives("007", 7);
        Works.gives("999999999", 999999999);
        Works.gives("let abcdefghijkl = 5 in abcdefghijkl", 5);
        Works.gives("let aZ09 = 5 in let aZ = 6 in aZ09", 5);
        Works.gives("let lets = 1 in let ins = 2 in lets+ins", 3);
        Works.gives("(fn(x:int)->x)12", 12);
    }

    private static void grammar() {
        Works.gives("1 - 2 - 3", -4);
        Works.gives("2 * 3 + 4 * 5", 26);
        Works.gives("2 + 3 * 4 - 5 * 6", -16);
        Works.gives("2 * (3 + 4)", 14);
        Works.gives("if 1 + 1 = 2 then 3 else 4", 3);
        Works.gives("if 2 * 2 < 1 + 3 then 3 else 4", 4);
        Works.gives("(fn (x : int) -> fn (y : int) -> x - y) 5 3 * 2", 4);
        Works.gives("let x = 1 in x + 1", 2);
        Works.gives("fn (x : int) -> x + 1", 0);
        Works.reads("effect E : (int -> unit {E}) -> (unit -> int {E, E}); 1", 1);
        Works.reads("effect A:int->int;effect B:int->int;effect C:int->int;effect D:int->int;"
                + "effect E:int->int;effect F:int->int;effect G:int->int;effect H:int->int;1", 1);
        Works.gives("handle handle 1 with return x -> x + 1 end with return y -> y * 10 end", 20);
    }

    private static void limits() {
        Works.reads(Works.times(49, "(") + "1" + Works.times(49, ")"), 1);
        Works.reads(Works.times(49, "(") + "()" + Works.times(49, ")"), 1);
        Works.reads(Works.times(49, "let a = 1 in ") + "a", 99);
        Works.reads(Works.times(49, "1+(") + "1" + Works.times(49, ")"), 99);
        Works.reads("1" + Works.times(299, "+1"), 599);
        Works.reads("if true then 1 else 1" + Works.times(298, "+1"), 600);
        String deepType = Works.times(49, "(") + "int" + Works.times(49, "->int)");
        Works.reads("fn (x : " + deepType + ") -> 1", 2);
        Works.reads("fn(x:" + deepType + ")->(fn(y:" + deepType + ")->1)x", 5);
        manyTypes();
    }

    /** Each function's type holds those of all that were told ahead of it. */
    private static void manyTypes() {
        StringBuilder text = new StringBuilder();
        for (int i = 0; i < 9; i++) {
            text.append("let f=").append(Works.times(9, "fn(x:int)->")).append(i == 0 ? "1" : "f").append(" in ");
        }
        Works works = Works.of(text + "f");
        Works.due("fault(0) of many types", works.x.fault(0), 0);
        Works.due("type(160) of many types", works.x.type(160), 3);
        Works.due("type(161) of many types", works.x.type(161), 0);
        Works.due("type(162) of many types", works.x.type(162), 0);
        Works.due("type(163) of many types", works.x.type(163), -1);
    }

    /** What was open when a text was refused is not there any more for the next one. */
    private static void readsAnewBehindFaults() {
        String[] refused = {"1 < 2 + 3 * (", "let x = 1 in fn (y : int) -> true + x + y",
            "effect E : int -> int; handle let x = 1 in E ! x with return y -> y | E a k -> a + true end",
            "rec x (y : int) : int = if y then 1 else 2 in 3", "effect E : int -> int; E !", "1 1"};
        for (String text : refused) {
            Works works = new Works();
            works.put(text);
            Works.due("read() of " + text, works.read(), Works.THROWS_ARGUMENT);
            works.put("x");
            Works.due("read() of a name", works.read(), Works.THROWS_ARGUMENT);
            Works.due("fault(0) of a name", works.x.fault(0), 5);
            works.put("E ! 1");
            Works.due("read() of an effect", works.read(), Works.THROWS_ARGUMENT);
            Works.due("fault(0) of an effect", works.x.fault(0), 3);
            works.put("(fn (x : int) -> let y = 2 in x * y + 1) 3");
            Works.due("read() of a program", works.read(), 10);
            works.start();
            works.run(1);
            Works.due("its value", works.x.state(1), 7);
        }
    }

    private static void namesAreGone() {
        Works works = Works.of("let x = 1 in true + x");
        Works.due("fault(0)", works.x.fault(0), 6);
        works.put("    x");
        Works.due("read() of x where x stood", works.read(), Works.THROWS_ARGUMENT);
        Works.due("fault(0) of x where x stood", works.x.fault(0), 5);
        Works.due("fault(1) of x where x stood", works.x.fault(1), 4);
    }

    private static void textIsEmptyThen() {
        Works works = new Works();
        works.put("1 +");
        Works.due("read() with a fault", works.read(), Works.THROWS_ARGUMENT);
        works.put("2");
        Works.due("read() behind it", works.read(), 1);
        Works.due("read() of nothing", works.read(), Works.THROWS_ARGUMENT);
        Works.due("fault(0) of nothing", works.x.fault(0), 1);
        Works.due("fault(1) of nothing", works.x.fault(1), 0);
        Works.due("type(0) of nothing", works.x.type(0), -1);
    }

    private static void nothingRunsThen() {
        String loop = "rec f (x : int) : int = f (x + 1) in f 1";
        Works works = Works.begun(loop);
        works.run(7);
        works.isAt("in the loop", 1, 0, 7, 1, 7, -1);
        works.put("5");
        works.read();
        works.isAt("behind a new program", 0, 0, 0, 0, 0, -1);
        Works.due("run(1)", works.run(1), Works.THROWS_STATE);
        works.put(loop);
        works.read();
        works.start();
        works.run(7);
        works.put("5 5 @");
        works.read();
        works.isAt("behind a fault", 0, 0, 0, 0, 0, -1);
        Works.due("run(1)", works.run(1), Works.THROWS_STATE);
        Works.due("start()", works.start(), Works.THROWS_STATE);
    }
}
