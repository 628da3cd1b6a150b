/** Promises 4 and 5, the words: which bytes make one, how long it may be, where it ends. */
public final class P04WordsTest {
    private static final String SIGNS = "(){}:;,=<+-*!|";
    private static final String[] KEYWORDS = {"effect", "let", "rec", "in", "if", "then", "else", "fn",
        "handle", "with", "return", "end", "true", "false", "int", "bool", "unit"};

    public static void main(String[] args) {
        eachByteByItself();
        eachByteInAName();
        eachByteInAnEffect();
        lengthsOfNames();
        lengthsOfEffects();
        lengthsOfNumbers();
        keywordsAreNoNames();
        longerThanKeywords();
        asLongAsCanBe();
        arrows();
        spacesAndLineEnds();
        namesAlike();
        Works.finish();
    }

    private static boolean isIn(char c, char first, char last) {
        return c >= first && c <= last;
    }

    private static boolean isInWords(char c) {
        return isIn(c, 'a', 'z') || isIn(c, 'A', 'Z') || isIn(c, '0', '9');
    }

    private static void eachByteByItself() {
        for (char c = 0; c < 256; c++) {
            String text = String.valueOf(c);
            if (isIn(c, '0', '9')) {
                Works.reads(text, 1);
            } else if (isIn(c, 'a', 'z')) {
                Works.refuses(text, 5, 0);
            } else if (isIn(c, 'A', 'Z')) {
                Works.refuses(text, 3, 0);
            } else if (c == ' ' || c == '\n' || c == '(') {
                Works.refuses(text, 1, 1);
            } else {
                Works.refuses(text, SIGNS.indexOf(c) >= 0 ? 1 : 2, 0);
            }
        }
    }

    /** What is no letter and no digit ends the name, and the next word begins there. */
    private static void eachByteInAName() {
        for (char c = 0; c < 256; c++) {
            String text = "let a" + c + " = 1 in a" + c;
            if (isInWords(c) || c == ' ' || c == '\n') {
                Works.reads(text, 3);
            } else if (c == '=') {
                Works.refuses(text, 1, 7);
            } else {
                Works.refuses(text, SIGNS.indexOf(c) >= 0 ? 1 : 2, 5);
            }
        }
    }

    private static void eachByteInAnEffect() {
        for (char c = 0; c < 256; c++) {
            String text = "effect E" + c + " : int -> int; E" + c + " ! 1";
            if (isInWords(c) || c == ' ' || c == '\n') {
                Works.reads(text, 2);
            } else if (c == ':') {
                Works.refuses(text, 1, 10);
            } else {
                Works.refuses(text, SIGNS.indexOf(c) >= 0 ? 1 : 2, 8);
            }
        }
    }

    private static void lengthsOfNames() {
        for (int length = 1; length <= 12; length++) {
            String name = "aB3dE6gH9jK2".substring(0, length);
            Works.gives("let " + name + " = 5 in " + name, 5);
            Works.gives("let " + name + " = 5 in(" + name + ")", 5);
        }
        Works.refusesAt(2, "let ^abcdefghijklm = 1 in 1");
        Works.refusesAt(2, "let ^a123456789012 = 1 in 1");
        Works.refusesAt(2, "1 + ^abcdefghijklm");
        Works.refusesAt(2, "^" + Works.times(1500, "a"));
        Works.refusesAt(2, "^returnreturns");
    }

    private static void lengthsOfEffects() {
        for (int length = 1; length <= 12; length++) {
            String effect = "AbCd5F7hI0kL".substring(0, length);
            Works.reads("effect " + effect + ":int->int;" + effect + "!1", 2);
        }
        Works.refusesAt(2, "effect ^Abcdefghijklm : int -> int; 1");
        Works.refusesAt(2, "effect ^A123456789012 : int -> int; 1");
        Works.refusesAt(2, "^Abcdefghijklm ! 1");
    }

    private static void lengthsOfNumbers() {
        Works.gives("0", 0);
        Works.gives("007", 7);
        Works.gives("000000000", 0);
        Works.gives("000000001", 1);
        Works.gives("123456789", 123456789);
        Works.gives("999999999", 999999999);
        Works.refusesAt(2, "^1234567890");
        Works.refusesAt(2, "^0000000001");
        Works.refusesAt(2, "^0000000000");
        Works.refusesAt(2, "^" + Works.times(1500, "9"));
        Works.refusesAt(2, "1 + ^1000000000");
        Works.refusesAt(2, "^1234567890abc");
    }

    private static void keywordsAreNoNames() {
        for (String keyword : KEYWORDS) {
            Works.refusesAt(1, "let ^" + keyword + " = 1 in 1");
            Works.refusesAt(1, "fn (^" + keyword + " : int) -> 1");
            Works.refusesAt(1, "effect ^" + keyword + " : int -> int; 1");
            Works.refusesAt(1, "handle 1 with return ^" + keyword + " -> 1 end");
        }
    }

    /** A keyword with one byte more or fewer, or with another first letter, is a name or effect. */
    private static void longerThanKeywords() {
        for (String keyword : KEYWORDS) {
            String shorter = keyword.equals("int") ? "i" : keyword.substring(0, keyword.length() - 1);
            String effect = Character.toUpperCase(keyword.charAt(0)) + keyword.substring(1);
            Works.reads("let " + keyword + "s = 1 in " + keyword + "s", 3);
            Works.reads("let " + keyword + "1 = 1 in " + keyword + "1", 3);
            Works.reads("let " + keyword + "X = 1 in " + keyword + "X", 3);
            Works.reads("let " + shorter + " = 1 in " + shorter, 3);
            Works.reads("effect " + effect + " : int -> int; " + effect + " ! 1", 2);
        }
    }

    private static void asLongAsCanBe() {
        Works.gives("let abc = 4 in let f = fn (x : int) -> x in f abc", 4);
        Works.refusesAt(5, "let abc = 4 in let f = fn (x : int) -> x in ^fabc");
        Works.refusesAt(6, "let abc = 4 in ^12abc");
        Works.gives("let f = fn (abc : int) -> fn (x : int) -> x in let abc = 2 in f 1abc", 2);
        Works.refusesAt(5, "^letx=1");
        Works.refusesAt(1, "let x=1^");
        Works.reads("let x=1in x", 3);
        Works.refusesAt(1, "let x=1 inx^");
        Works.refusesAt(5, "^truefalse");
        Works.refusesAt(6, "^true false");
        Works.refusesAt(1, "1 ^E2");
    }

    private static void arrows() {
        Works.gives("3-2", 1);
        Works.refusesAt(1, "3^->2");
        Works.refusesAt(2, "3- ^>2");
        Works.refusesAt(2, "3 ^>2");
        Works.refusesAt(1, "3-^->2");
        Works.refusesAt(1, "3-^-2");
        Works.refusesAt(2, "fn (x : int) ->^> x");
        Works.refusesAt(1, "fn (x : int) ^- > x");
        Works.refusesAt(1, "3-^");
        Works.refusesAt(1, "3^->");
    }

    private static void spacesAndLineEnds() {
        Works.gives("\n \n 1\n+\n\n2 \n", 3);
        Works.gives("effect E:int->int;handle E!1 with{}return x->x|E a k->k(a+1)end", 2);
        Works.gives("effect\nE\n:\nint\n->\nint\n;\nhandle\nE\n!\n1\nwith\n{\n}\nreturn\nx\n->\nx\n|\nE\na\nk\n->"
            + "\nk\n(\na\n+\n1\n)\nend\n", 2);
        Works.reads("( \n )", 1);
        Works.refusesAt(2, "1^\t");
        Works.refusesAt(2, "1 ^\r\n");
        Works.refusesAt(2, "1 + ^\0");
        Works.refusesAt(2, "1 + ^\u00a0");
        Works.reads(Works.times(749, " ") + "1" + Works.times(750, "\n"), 1);
        Works.refusesAt(1, Works.times(1500, " ") + "^");
    }

    /** Names are alike if all of their bytes are. */
    private static void namesAlike() {
        Works.gives("let abcdefghijkl = 1 in let abcdefghijkm = 2 in abcdefghijkl", 1);
        Works.gives("let bbcdefghijkl = 1 in let abcdefghijkl = 2 in bbcdefghijkl", 1);
        Works.gives("let a = 1 in let aa = 2 in let aaa = 3 in a * 100 + aa * 10 + aaa", 123);
        Works.gives("let aaa = 3 in let aa = 2 in let a = 1 in a * 100 + aa * 10 + aaa", 123);
        Works.gives("let aB = 1 in let ab = 2 in aB", 1);
        Works.gives("let x0 = 1 in let x00 = 2 in x0", 1);
        Works.refusesAt(5, "let abc = 1 in ^ab");
        Works.refusesAt(5, "let ab = 1 in ^abc");
        Works.refusesAt(3, "effect Ab : int -> int; ^A ! 1");
        Works.refusesAt(3, "effect A : int -> int; ^Ab ! 1");
        Works.reads("effect A : int -> int; effect Ab : int -> int; effect AB : int -> int; let a = 1 in A ! a", 4);
    }
}
