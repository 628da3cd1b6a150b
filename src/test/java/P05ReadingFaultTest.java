/** Promise 5, the faults of the reading, 1 to 4. A ^ in a text marks the place that is due. */
public final class P05ReadingFaultTest {
    private static final String E = "effect E : int -> int; ";
    /** A program with every form in it, of which no part from the beginning is one. */
    private static final String[] EVERY_FORM = ("effect E : ( int -> bool { E } ) -> unit ; effect F : unit -> int ; "
        + "let x = 12 in rec f ( n : int ) : int { E , F } = if n < x + 1 then n * 2 - F ! ( ) else f ( n - 1 ) in "
        + "if true then fn ( g : ( unit -> int { } ) ) -> ( g ( ) ) else fn ( g : ( unit -> int ) ) -> "
        + "handle f 1 with { } return y -> y | E a k -> k ( ) | F u k -> k 3 end").split(" ");

    public static void main(String[] args) {
        otherQuestions();
        aheadOfAnyRead();
        ofTheLatestRead();
        cutBehindEachWord();
        otherWordForEachWord();
        noWordForEachWord();
        cannotStand();
        endIsTheLength();
        noWord();
        undeclared();
        declaredAnew();
        leftToRight();
        orderAtOnePlace();
        readingAheadOfChecking();
        Works.finish();
    }

    private static void otherQuestions() {
        String[] texts = {"1 + x", "1", "@"};
        int[] others = {2, 3, -1, Integer.MAX_VALUE, Integer.MIN_VALUE};
        for (String text : texts) {
            Works works = Works.of(text);
            for (int what : others) {
                Works.due("fault(" + what + ") of " + text, works.x.fault(what), -1);
            }
        }
    }

    private static void aheadOfAnyRead() {
        Works works = new Works();
        Works.due("fault(0) of none", works.x.fault(0), 0);
        Works.due("fault(1) of none", works.x.fault(1), -1);
        Works.due("fault(2) of none", works.x.fault(2), -1);
        works.put("@");
        Works.due("fault(0) ahead of read()", works.x.fault(0), 0);
        Works.due("fault(1) ahead of read()", works.x.fault(1), -1);
    }

    private static void ofTheLatestRead() {
        Works works = Works.of("1 + x");
        Works.due("fault(0)", works.x.fault(0), 5);
        Works.due("fault(1)", works.x.fault(1), 4);
        works.put("1");
        Works.due("fault(0) until read()", works.x.fault(0), 5);
        Works.due("fault(1) until read()", works.x.fault(1), 4);
        works.read();
        Works.due("fault(0) of a program", works.x.fault(0), 0);
        Works.due("fault(1) of a program", works.x.fault(1), -1);
        works.start();
        works.run(0);
        works.put("@");
        works.read();
        Works.due("fault(0) of another text", works.x.fault(0), 2);
        Works.due("fault(1) of another text", works.x.fault(1), 0);
    }

    private static String joined(String[] words, int from, int to) {
        StringBuilder text = new StringBuilder();
        for (int i = from; i < to; i++) {
            text.append(words[i]).append(' ');
        }
        return text.toString();
    }

    private static void cutBehindEachWord() {
        int count = EVERY_FORM.length;
        for (int i = 0; i < count; i++) {
            Works.refusesAt(1, joined(EVERY_FORM, 0, i) + "^");
        }
        Works.reads(joined(EVERY_FORM, 0, count), 38);
    }

    /** A ; may stand only where one does: instead of each other word, and ahead of it, it may not. */
    private static void otherWordForEachWord() {
        int count = EVERY_FORM.length;
        for (int i = 0; i < count; i++) {
            String ahead = joined(EVERY_FORM, 0, i);
            String behind = joined(EVERY_FORM, i + 1, count);
            if (!EVERY_FORM[i].equals(";")) {
                Works.refusesAt(1, ahead + "^; " + behind);
                Works.refusesAt(1, ahead + "^; " + EVERY_FORM[i] + " " + behind);
            }
        }
        Works.refusesAt(1, joined(EVERY_FORM, 0, count) + "^;");
        Works.refusesAt(1, joined(EVERY_FORM, 0, count) + "^end");
    }

    private static void noWordForEachWord() {
        int count = EVERY_FORM.length;
        for (int i = 0; i < count; i++) {
            String ahead = joined(EVERY_FORM, 0, i);
            Works.refusesAt(2, ahead + "^@ " + joined(EVERY_FORM, i + 1, count));
            Works.refusesAt(2, ahead + "^1234567890 " + joined(EVERY_FORM, i, count));
        }
        Works.refusesAt(2, joined(EVERY_FORM, 0, count) + "^@");
    }

    private static void cannotStand() {
        String[] texts = {"1 ^)", "let x = ^in 1", "let ^in = 1 in 1", "let ^E = 1 in 1", "let ^1 = 1 in 1",
            "1 < 2 ^< 3", "1 = 2 ^= 3", "1 < 2 ^= 3", "1 = 2 ^< 3", "1 + ^let x = 1 in x", "1 * ^if true then 1 else 2",
            "1 < ^fn (x : int) -> 1", "1 ^handle 1 with return x -> x end", "1 * ^+ 2", "1 + ^- 2", "^- 2", "^* 1",
            "(1 ^, 2)", "^)", "if 1 ^else", "fn ^x", "fn (x ^) -> x", "fn (x : ^foo) -> x", "fn (x : ^) -> x",
            "fn (x : int) ^= x", "fn (x : (int ^, int)) -> x", "fn (x : int ^-> int) -> x",
            "fn (x : (int^)) -> x", "fn (x : int ^{}) -> x", "fn (x : (^)) -> x",
            "effect ^e : int -> int; 1", "effect E ^int", "effect E : int ^; 1", "effect E : int -> int ^1",
            "effect E : int -> int ^{}; 1", "1 ^effect", "(^effect E : int -> int; 1)", "effect E : int -> int;^;1",
            "handle 1 ^return x -> x end", "handle 1 with ^x -> x end",
            "handle 1 with return x -> x | ^e a k -> 1 end", "handle 1 with return x -> x | ^end", "^->", "1 ^-> 2",
            "^| 1", "true ^!", "x ^! 1", "() ^{}", "^{}", "^int", "^unit"};
        for (String text : texts) {
            Works.refusesAt(1, text);
        }
        Works.refusesAt(1, E + "E ^1");
        Works.refusesAt(1, E + "E ! ^E ! 1");
        Works.refusesAt(1, E + "E ! ^let x = 1 in x");
        Works.refusesAt(1, E + "E ! 1 ^1");
        Works.refusesAt(1, E + "E ! 1 ^(1)");
        Works.refusesAt(1, E + "(fn (x : int) -> x) ^E ! 1");
        Works.refusesAt(1, E + "fn (x : (int -> int {^,E})) -> 1");
        Works.refusesAt(1, E + "fn (x : (int -> int {E,^})) -> 1");
        Works.refusesAt(1, E + "fn (x : (int -> int {E ^E})) -> 1");
        Works.refusesAt(1, E + "fn (x : (int -> int {^e})) -> 1");
        Works.refusesAt(1, E + "fn (x : (int -> int {E} ^{E})) -> 1");
        Works.refusesAt(1, E + "handle 1 with {E} ^{E} return x -> x end");
        Works.refusesAt(1, E + "handle 1 with return x -> x | E a ^-> 1 end");
        Works.refusesAt(1, E + "handle 1 with return x -> x | E a k ^b -> 1 end");
        Works.refusesAt(1, E + "handle 1 with ^| E a k -> 1 return x -> x end");
        Works.refusesAt(1, "rec f (x : int) ^= x in 1");
        Works.refusesAt(1, "rec f (x : int) : int ^in 1");
    }

    private static void endIsTheLength() {
        Works.refusesAt(1, "^");
        Works.refusesAt(1, " ^");
        Works.refusesAt(1, "  \n^");
        Works.refusesAt(1, "1 +^");
        Works.refusesAt(1, "1 +   ^");
        Works.refusesAt(1, "(1\n\n^");
        Works.refusesAt(1, "let x = 1^");
        Works.refusesAt(1, "handle 1 with return x -> x ^");
        Works.refusesAt(1, "(1" + Works.times(1498, " ") + "^");
    }

    private static void noWord() {
        Works.refusesAt(2, "^@");
        Works.refusesAt(2, "  ^@");
        Works.refusesAt(2, "1 ^> 2");
        Works.refusesAt(2, "1 + ^\u00ff");
        Works.refusesAt(2, "^_a");
        Works.refusesAt(2, "1^_");
        Works.refusesAt(2, "let x ^abcdefghijklm");
        Works.refusesAt(2, "1 ^@");
        Works.refusesAt(2, "1^@2");
    }

    private static void undeclared() {
        Works.refusesAt(3, "^E");
        Works.refusesAt(3, "^E ! 1");
        Works.refusesAt(3, "1 + ^E ! 1");
        Works.refusesAt(3, E + "^F ! 1");
        Works.refusesAt(3, "effect E : (int -> int {^F}) -> int; effect F : int -> int; 1");
        Works.refusesAt(3, "effect E : int -> (int -> int {^F}); effect F : int -> int; 1");
        Works.reads("effect E : (int -> int {E}) -> (int -> int {E}); 1", 1);
        Works.reads("effect E : int -> int; effect F : (int -> int {E, F}) -> (int -> int {F, E}); 1", 1);
        Works.refusesAt(3, E + "fn (x : (int -> int {E, ^Ee})) -> 1");
        Works.refusesAt(3, E + "handle 1 with {^G} return x -> x end");
        Works.refusesAt(3, E + "handle 1 with {E, E, ^G} return x -> x end");
        Works.refusesAt(3, E + "handle 1 with return x -> x | ^G a k -> 1 end");
        Works.refusesAt(3, E + "rec f (x : int) : int {^G} = 1 in 1");
    }

    private static void declaredAnew() {
        Works.refusesAt(3, E + "effect ^E : int -> int; 1");
        Works.refusesAt(3, E + "effect ^E");
        Works.refusesAt(3, E + "effect F : int -> int; effect ^E : int -> int; 1");
        Works.refusesAt(3, E + "effect F : int -> int; effect ^F : int -> int; 1");
        Works.reads(E + "effect Ee : int -> int; effect EE : int -> int; 1", 1);
    }

    private static void leftToRight() {
        Works.refusesAt(1, "1 ^, @");
        Works.refusesAt(2, "1 ^@ ,");
        Works.refusesAt(3, "^E ! @");
        Works.refusesAt(3, "^E ! )");
        Works.refusesAt(1, "1 ^) E ! 1");
        Works.refusesAt(2, "1 + ^@ + E ! 1");
        Works.refusesAt(1, "1 + ^} " + Works.times(60, "("));
        Works.refusesAt(4, Works.times(50, "(") + "^( @");
    }

    /** Of several at one place 2, then 4, then 1, then 3. */
    private static void orderAtOnePlace() {
        String fifty = Works.times(50, "(");
        Works.refusesAt(2, fifty + "^@");
        Works.refusesAt(2, "1 + ^@");
        Works.refusesAt(2, "^Abcdefghijklm ! 1");
        Works.refusesAt(4, fifty + "^");
        Works.refusesAt(4, fifty + "^E ! 1");
        Works.refusesAt(1, "1 ^E");
        Works.refusesAt(1, "let ^E = 1 in 1");
        Works.refusesAt(1, "fn (x : ^E) -> 1");
        Works.refusesAt(1, "fn (x : (int -> int { }^E)) -> 1");
        Works.refusesAt(1, "effect E : ^E -> int; 1");
        Works.refusesAt(1, E + "E ! ^F ! 1");
    }

    private static void readingAheadOfChecking() {
        Works.refusesAt(1, "x + true + (^");
        Works.refusesAt(1, "let x = y in (1 ^then");
        Works.refusesAt(2, "1 1 + true ^@");
        Works.refusesAt(3, "x + ^E ! 1");
        Works.refusesAt(4, "x + " + Works.times(50, "(") + "^1");
        Works.refusesAt(1, E + "handle E ! 1 with return x -> x | E a k -> a | E a k -> a ^");
    }
}
