/** The calls that README.md shows answer what it tells. */
public final class ReadmeTest {
    public static void main(String[] args) {
        Works works = new Works();
        aProgram(works);
        aFault(works);
        theLanguage();
        Works.finish();
    }

    private static void aProgram(Works works) {
        works.put("effect Ask : unit -> int; handle Ask!() * Ask!() with return x -> x | Ask u k -> k 6 end");
        Works.due("read()", works.read(), 10);
        Works.due("type(0)", works.x.type(0), 0);
        Works.due("effects(-1)", works.x.effects(-1), 0);
        Works.due("start()", works.start(), 0);
        Works.due("run(1)", works.run(1), 1);
        Works.due("state(0)", works.x.state(0), 1);
        Works.due("run(2000)", works.run(2000), 3);
        Works.due("state(0)", works.x.state(0), 2);
        Works.due("state(1)", works.x.state(1), 36);
        Works.due("state(2)", works.x.state(2), 4);
        Works.due("start()", works.start(), 0);
        works.isAt("begun anew", 1, 0, 0, 0, 0, -1);
    }

    private static void aFault(Works works) {
        works.put("1 + true");
        Works.due("read()", works.read(), Works.THROWS_ARGUMENT);
        Works.due("fault(0)", works.x.fault(0), 6);
        Works.due("fault(1)", works.x.fault(1), 4);
        Works.due("start()", works.start(), Works.THROWS_STATE);
    }

    private static void theLanguage() {
        String ask = "effect Ask : unit -> int;";
        Works.gives(ask + "let x = 1 in x + 1", 2);
        Works.reads(ask + "rec f (n : int) : int {Ask} = f (n - 1) in f 3", 9);
        Works.gives("let x = 0 in if x < 1 then 2 else 3", 2);
        Works.gives("(fn (x : int) -> x) 5", 5);
        Works.gives("let f = fn (x : int) -> fn (y : int) -> x - y in f 1 2", -1);
        Works.gives(ask + "handle Ask!() with {} return x -> x | Ask u k -> k 1 end", 1);
    }
}
