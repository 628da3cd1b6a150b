/** One object under test, with its answers compared; a test's main method ends with finish(). */
final class Works {
    static final int THROWS_ARGUMENT = -1000001;
    static final int THROWS_STATE = -1000002;
    static final int THROWS_OTHER = -1000003;

    private static int wrong = 0;
    private static int compared = 0;

    final FiberWorks x = new FiberWorks();

    static void due(String what, long got, long want) {
        compared++;
        if (got != want) {
            wrong++;
            System.out.println(what + " answered " + got + ", due is " + want);
        }
    }

    static void finish() {
        System.out.println(compared + " answers compared, " + wrong + " not as due");
        if (wrong != 0 || compared == 0) {
            System.exit(1);
        }
    }

    /** A new object that has read the text. */
    static Works of(String text) {
        Works works = new Works();
        works.put(text);
        works.read();
        return works;
    }

    /** A new object whose program has begun. */
    static Works begun(String text) {
        Works works = of(text);
        due("start() of " + text, works.start(), 0);
        return works;
    }

    static String times(int n, String part) {
        return part.repeat(n);
    }

    /** Puts a text into the hand, twenty bytes at a time. */
    void put(String text) {
        for (int i = 0; i < text.length(); i += 20) {
            int n = Math.min(20, text.length() - i);
            int[] five = new int[5];
            for (int j = 0; j < n; j++) {
                five[j / 4] |= (text.charAt(i + j) & 255) << (24 - 8 * (j % 4));
            }
            x.feed(five[0], five[1], five[2], five[3], five[4]);
            x.end(n);
        }
    }

    int read() {
        try {
            return x.read();
        } catch (IllegalArgumentException e) {
            return THROWS_ARGUMENT;
        } catch (RuntimeException e) {
            return THROWS_OTHER;
        }
    }

    int start() {
        try {
            x.start();
            return 0;
        } catch (IllegalStateException e) {
            return THROWS_STATE;
        } catch (RuntimeException e) {
            return THROWS_OTHER;
        }
    }

    int run(int n) {
        try {
            return x.run(n);
        } catch (IllegalStateException e) {
            return THROWS_STATE;
        } catch (IllegalArgumentException e) {
            return THROWS_ARGUMENT;
        } catch (RuntimeException e) {
            return THROWS_OTHER;
        }
    }

    /** The text is a program with so many nodes. */
    static void reads(String text, int nodes) {
        Works works = new Works();
        works.put(text);
        due("read() of " + text, works.read(), nodes);
        due("fault(0) of " + text, works.x.fault(0), 0);
        due("fault(1) of " + text, works.x.fault(1), -1);
    }

    /** The text is refused with a fault at a place. */
    static void refuses(String text, int fault, int place) {
        Works works = new Works();
        works.put(text);
        due("read() of " + text, works.read(), THROWS_ARGUMENT);
        due("fault(0) of " + text, works.x.fault(0), fault);
        due("fault(1) of " + text, works.x.fault(1), place);
        due("type(0) of " + text, works.x.type(0), -1);
        due("effects(-1) of " + text, works.x.effects(-1), -1);
        due("start() of " + text, works.start(), THROWS_STATE);
    }

    /** The fault stands where ^ does; the ^ itself is not part of the text. */
    static void refusesAt(int fault, String marked) {
        int place = marked.indexOf('^');
        refuses(marked.substring(0, place) + marked.substring(place + 1), fault, place);
    }

    /** What state() tells, from 0 to 5. */
    void isAt(String when, int state, int value, int fuel, int things, int depth, int effect) {
        due(when + ": state(0)", x.state(0), state);
        due(when + ": state(1)", x.state(1), value);
        due(when + ": state(2)", x.state(2), fuel);
        due(when + ": state(3)", x.state(3), things);
        due(when + ": state(4)", x.state(4), depth);
        due(when + ": state(5)", x.state(5), effect);
    }

    /** The program ends as told when it has 2000 of fuel. */
    static void ends(String text, int state, int value, int fuel, int things, int depth) {
        Works works = begun(text);
        due("run(2000) of " + text, works.run(2000), fuel);
        works.isAt(text, state, value, fuel, things, depth, -1);
    }

    /** The program is DONE with a value. */
    static void gives(String text, int value) {
        Works works = begun(text);
        works.run(2000);
        due("state(0) of " + text, works.x.state(0), 2);
        due("state(1) of " + text, works.x.state(1), value);
        due("state(4) of " + text, works.x.state(4), 0);
    }
}
