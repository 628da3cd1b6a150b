/** Promise 4: the text is read and checked, how many NODES it has; what runs is over. */
public final class P04ReadTest {
    private static final String EIGHT = "effect A:int->int;effect B:int->int;effect C:int->int;effect D:int->int;"
        + "effect E:int->int;effect F:int->int;effect G:int->int;effect H:int->int;";

    public static void main(String[] args) {
        grammar();
        rows();
        textIsEmptyThen();
        emptyText();
        nothingOfAnEarlierText();
        nothingOfAnEarlierProgram();
        namesAreGone();
        effectsAreGone();
        readsAnewBehindFaults();
        manyFaults();
        manyPrograms();
        hasNotBegun();
        nothingRunsThen();
        noProgramBehindAFault();
        Works.finish();
    }

    private static void grammar() {
        Works.gives("1 - 2 - 3", -4);
        Works.gives("1 - (2 - 3)", 2);
        Works.gives("2 * 3 + 4 * 5", 26);
        Works.gives("2 + 3 * 4 - 5 * 6", -16);
        Works.gives("2 * (3 + 4)", 14);
        Works.gives("if 1 + 1 = 2 then 3 else 4", 3);
        Works.gives("if 2 * 2 < 1 + 3 then 3 else 4", 4);
        Works.gives("(fn (x : int) -> fn (y : int) -> x - y) 5 3 * 2", 4);
        Works.gives("let x = 1 in x + 1", 2);
        Works.gives("let x = let y = 2 in y * 3 in x + 1", 7);
        Works.gives("if if true then false else true then 1 else if false then 2 else 3", 3);
        Works.gives("fn (x : int) -> x + 1", 0);
        Works.gives("handle handle 1 with return x -> x + 1 end with return y -> y * 10 end", 20);
        Works.gives("1 + (handle 1 with return x -> x + 1 end) * 10", 21);
        Works.gives("effect E : int -> int; handle E ! 1 with return x -> x * 3 "
            + "| E a k -> let b = k a in b + 4 end", 7);
    }

    private static void rows() {
        Works.reads("effect E : (int -> unit {E}) -> (unit -> int {E, E}); 1", 1);
        Works.reads("effect E : int -> int; fn (f : (int -> int {})) -> fn (g : (int -> int)) -> "
            + "if true then f else g", 6);
        Works.reads(EIGHT + "fn (f : (int -> int {A, B, C, D, E, F, G, H, A, H})) -> 1", 2);
        Works.reads(EIGHT + "fn (f : (int -> int {A" + Works.times(600, ",A") + "})) -> 1", 2);
        Works.reads(EIGHT + "handle 1 with return x -> x | A a k -> 1 | B a k -> 1 | C a k -> 1 | D a k -> 1 "
            + "| E a k -> 1 | F a k -> 1 | G a k -> 1 | H a k -> 1 end", 11);
    }

    private static void textIsEmptyThen() {
        Works works = new Works();
        works.put("1 +");
        Works.due("read() with a fault", works.read(), Works.THROWS_ARGUMENT);
        Works.due("end(0) behind a fault", works.x.end(0), 0);
        works.put("2");
        Works.due("read() behind it", works.read(), 1);
        Works.due("end(0) behind a program", works.x.end(0), 0);
    }

    private static void emptyText() {
        Works works = new Works();
        for (int i = 0; i < 3; i++) {
            Works.due("read() of nothing", works.read(), Works.THROWS_ARGUMENT);
            Works.due("fault(0) of nothing", works.x.fault(0), 1);
            Works.due("fault(1) of nothing", works.x.fault(1), 0);
            Works.due("type(0) of nothing", works.x.type(0), -1);
            works.put("2");
            Works.due("read() of a program", works.read(), 1);
        }
    }

    /** The last word ends where the text ends, whatever a longer one had there. */
    private static void nothingOfAnEarlierText() {
        Works works = Works.of("12345678 + 12345678");
        works.put("1");
        works.read();
        works.start();
        works.run(0);
        Works.due("a number", works.x.state(1), 1);
        works.put("let ab = 7 in abc");
        works.read();
        works.put("let ab = 7 in ab");
        Works.due("read() of a shorter name", works.read(), 3);
        works.put("1->");
        works.read();
        works.put("1-");
        works.read();
        Works.due("fault(0) of 1-", works.x.fault(0), 1);
        Works.due("fault(1) of 1-", works.x.fault(1), 2);
    }

    private static void nothingOfAnEarlierProgram() {
        Works works = Works.of("effect E : int -> int; let f = fn (x : int) -> E ! x in let u = E ! 1 in f");
        Works.due("type(0)", works.x.type(0), 3);
        Works.due("effects(-1)", works.x.effects(-1), 1);
        works.put("true");
        Works.due("read()", works.read(), 1);
        Works.due("type(0) then", works.x.type(0), 1);
        Works.due("type(1) then", works.x.type(1), -1);
        Works.due("effects(-1) then", works.x.effects(-1), 0);
        Works.due("effects(0) then", works.x.effects(0), -1);
    }

    private static void namesAreGone() {
        Works works = Works.of("let x = 1 in true + x");
        Works.due("fault(0)", works.x.fault(0), 6);
        works.put("    x");
        Works.due("read() of x where x stood", works.read(), Works.THROWS_ARGUMENT);
        Works.due("fault(0) of x where x stood", works.x.fault(0), 5);
        Works.due("fault(1) of x where x stood", works.x.fault(1), 4);
    }

    private static void effectsAreGone() {
        Works works = Works.of("effect E : int -> int; E ! 1");
        Works.due("fault(0)", works.x.fault(0), 0);
        works.put("       E ! 1");
        Works.due("read() of E where E stood", works.read(), Works.THROWS_ARGUMENT);
        Works.due("fault(0) of E where E stood", works.x.fault(0), 3);
        Works.due("fault(1) of E where E stood", works.x.fault(1), 7);
        for (int i = 0; i < 4; i++) {
            works.put(EIGHT + "H ! 1");
            Works.due("read() of eight", works.read(), 2);
            Works.due("effects(-1) of eight", works.x.effects(-1), 128);
        }
    }

    /** What was open when a text was refused is not there any more for the next one. */
    private static void readsAnewBehindFaults() {
        String[] refused = {"1 < 2 + 3 * (", "let x = 1 in fn (y : int) -> true + x + y",
            "effect E : int -> int; handle let x = 1 in E ! x with return y -> y | E a k -> a + true end",
            "rec x (y : int) : int = if y then 1 else 2 in 3", "effect E : int -> int; E !", "1 1"};
        for (String text : refused) {
            Works works = new Works();
            works.put(text);
            Works.due("read() of " + text, works.read(), Works.THROWS_ARGUMENT);
            works.put("x");
            Works.due("read() of a name", works.read(), Works.THROWS_ARGUMENT);
            Works.due("fault(0) of a name", works.x.fault(0), 5);
            works.put("E ! 1");
            Works.due("read() of an effect", works.read(), Works.THROWS_ARGUMENT);
            Works.due("fault(0) of an effect", works.x.fault(0), 3);
            works.put("(fn (x : int) -> let y = 2 in x * y + 1) 3");
            Works.due("read() of a program", works.read(), 10);
            works.start();
            works.run(1);
            Works.due("its value", works.x.state(1), 7);
        }
    }

    /** As many faults as 512 calls can have, with as much open as can be. */
    private static void manyFaults() {
        String open = Works.times(12, "1<2+3*(");
        Works works = new Works();
        for (int i = 0; i < 40; i++) {
            works.put(open + ")");
            Works.due("read() of what is open", works.read(), Works.THROWS_ARGUMENT);
            Works.due("fault(0) of what is open", works.x.fault(0), 1);
        }
        String checked = Works.times(8, "fn(x:int)->1<2+3*(") + "true+1" + Works.times(8, ")");
        works = new Works();
        for (int i = 0; i < 26; i++) {
            works.put(checked);
            Works.due("read() of a wrong type", works.read(), Works.THROWS_ARGUMENT);
            Works.due("fault(0) of a wrong type", works.x.fault(0), 6);
            Works.due("fault(1) of a wrong type", works.x.fault(1), 144);
        }
        works.put("let x = 1 in x");
        Works.due("read() of a program", works.read(), 3);
    }

    private static void manyPrograms() {
        Works works = new Works();
        for (int i = 0; i < 80; i++) {
            works.put("let a" + i + " = " + i + " in a" + i);
            Works.due("read() of program " + i, works.read(), 3);
            works.start();
            works.run(0);
            Works.due("value of program " + i, works.x.state(1), i);
        }
    }

    private static void hasNotBegun() {
        Works works = Works.of("1");
        works.isAt("read", 0, 0, 0, 0, 0, -1);
        Works.due("run(0)", works.run(0), Works.THROWS_STATE);
        works.start();
        works.put("2");
        works.isAt("another text comes", 1, 0, 0, 0, 0, -1);
        works.run(0);
        Works.due("the first program's value", works.x.state(1), 1);
        works.read();
        works.isAt("read again", 0, 0, 0, 0, 0, -1);
        Works.due("run(0) again", works.run(0), Works.THROWS_STATE);
    }

    private static void nothingRunsThen() {
        String e = "effect E : unit -> int; ";
        String[] texts = {"rec f (x : int) : int = f (x + 1) in f 1", "1 + 2", e + "E ! ()",
            e + "handle E ! () with return x -> x | E u k -> k 1 + k 2 end",
            "rec f (x : int) : int = let g = fn (y : int) -> y in let h = g in let i = fn (y : int) -> y in "
                + "let j = fn (y : int) -> y in f 1 in f 1"};
        int[] states = {1, 2, 4, 3, 5};
        String[] next = {"5", "5 5 @"};
        for (int i = 0; i < texts.length; i++) {
            for (String text : next) {
                Works works = Works.begun(texts[i]);
                works.run(i == 0 ? 7 : 2000);
                Works.due("state(0) of " + texts[i], works.x.state(0), states[i]);
                works.put(text);
                works.read();
                works.isAt("behind read() of " + text, 0, 0, 0, 0, 0, -1);
                Works.due("run(1)", works.run(1), Works.THROWS_STATE);
            }
        }
    }

    private static void noProgramBehindAFault() {
        String[] refused = {"", "@", ")", "E ! 1", "x", "true + 1"};
        for (String text : refused) {
            Works works = Works.of("fn (x : int) -> x");
            works.put(text);
            Works.due("read() of " + text, works.read(), Works.THROWS_ARGUMENT);
            Works.due("type(0)", works.x.type(0), -1);
            Works.due("effects(-1)", works.x.effects(-1), -1);
            Works.due("effects(0)", works.x.effects(0), -1);
            Works.due("start()", works.start(), Works.THROWS_STATE);
            Works.due("run(0)", works.run(0), Works.THROWS_STATE);
            Works.due("run(-1)", works.run(-1), Works.THROWS_STATE);
        }
    }
}
