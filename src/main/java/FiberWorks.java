import java.util.Arrays;

/**
 * A works for a language with effects and handlers: a text is read into a row of instructions that
 * stand in the order in which the text tells them, one pass over that row checks the types, and the
 * same row is what runs. So neither checking nor running needs recursion.
 */
public final class FiberWorks {
    public static final int NONE = -1;

    private static final int READY_BYTES = 20;
    private static final int TEXT_BYTES = 1500;
    private static final int MOST_FUEL = 2000;

    private final byte[] ready;
    private final Faults faults;
    private final Words words;
    private final Types types;
    private final Code code;
    private final Reader reader;
    private final Checker checker;
    private final Machine machine;
    private boolean hasProgram;

    public FiberWorks() {
        ready = new byte[READY_BYTES];
        faults = new Faults();
        words = new Words(faults);
        types = new Types();
        code = new Code();
        Declarations declared = new Declarations();
        reader = new Reader(words, faults, types, declared, code);
        checker = new Checker(faults, types, declared, code);
        machine = new Machine(code);
        hasProgram = false;
    }

    public void feed(int a, int b, int c, int d, int e) {
        putReady(0, a);
        putReady(4, b);
        putReady(8, c);
        putReady(12, d);
        putReady(16, e);
    }

    public int end(int n) {
        if (n < 0 || n > READY_BYTES || words.length + n > TEXT_BYTES) {
            return NONE;
        }
        words.append(ready, n);
        Arrays.fill(ready, (byte) 0);
        return words.length;
    }

    public int read() throws IllegalArgumentException {
        machine.clear();
        faults.clear();
        words.split();
        hasProgram = isProgram();
        words.clear();
        if (!hasProgram) {
            throw new IllegalArgumentException("the text has a fault");
        }
        return code.nodes;
    }

    public int fault(int what) {
        if (what == 0) {
            return faults.kind;
        }
        return what == 1 ? faults.place : NONE;
    }

    public int type(int k) {
        int node = programNode(k);
        if (node == NONE) {
            return NONE;
        }
        return types.isFunction(node) ? Types.FUNCTION : node;
    }

    public int effects(int k) {
        if (k == NONE) {
            return hasProgram ? code.effects : NONE;
        }
        int node = programNode(k);
        return node != NONE && types.isFunction(node) ? types.rowOf(node) : NONE;
    }

    public void start() throws IllegalStateException {
        if (!hasProgram) {
            throw new IllegalStateException("there is no program");
        }
        machine.begin();
    }

    public int run(int n) throws IllegalStateException, IllegalArgumentException {
        if (machine.status == Machine.NOT_BEGUN) {
            throw new IllegalStateException("the program has not begun");
        }
        if (n < 0 || n > MOST_FUEL) {
            throw new IllegalArgumentException("no such amount of fuel");
        }
        return machine.goAhead(n);
    }

    public int state(int what) {
        switch (what) {
            case 0:
                return machine.status;
            case 1:
                return machine.value;
            case 2:
                return machine.fuel;
            case 3:
                return machine.things;
            case 4:
                return machine.depth;
            case 5:
                return machine.unhandled;
            default:
                return NONE;
        }
    }

    private void putReady(int at, int bytes) {
        for (int i = 0; i < 4; i++) {
            ready[at + i] = (byte) (bytes >>> (24 - 8 * i));
        }
    }

    private boolean isProgram() {
        try {
            reader.readProgram();
            checker.checkProgram();
        } catch (IllegalArgumentException refused) {
            return false;
        }
        return true;
    }

    private int programNode(int k) {
        return hasProgram ? types.node(code.type, k) : NONE;
    }

    /** Rows begin short and grow by doubling, so that an object costs what its programs need. */
    private static int[] atLeast(int[] row, int size) {
        return size <= row.length ? row : Arrays.copyOf(row, Math.max(size, 2 * row.length));
    }

    /** The fault of the latest reading. */
    private static final class Faults {
        static final int CANNOT_STAND = 1;
        static final int NO_WORD = 2;
        static final int UNDECLARED = 3;
        static final int LIMIT = 4;
        static final int UNKNOWN_NAME = 5;
        static final int WRONG_TYPE = 6;
        static final int BEYOND_ROW = 7;
        static final int TWO_CLAUSES = 8;

        int kind;
        int place;

        Faults() {
            clear();
        }

        void clear() {
            kind = 0;
            place = NONE;
        }

        void refuse(int newKind, int newPlace) {
            kind = newKind;
            place = newPlace;
            throw new IllegalArgumentException();
        }
    }

    /** The kinds of words; those that are always spelled alike with their letters. */
    private enum Word {
        END_OF_TEXT(""), NO_WORD(""), NAME(""), EFFECT(""), NUMBER(""),
        OPEN("("), CLOSE(")"), OPEN_ROW("{"), CLOSE_ROW("}"), COLON(":"), SEMICOLON(";"),
        COMMA(","), SAME("="), LESS("<"), PLUS("+"), MINUS("-"), TIMES("*"), PERFORM("!"),
        BAR("|"), ARROW("->"),
        DECLARE("effect"), LET("let"), REC("rec"), IN("in"), IF("if"), THEN("then"), ELSE("else"),
        FN("fn"), HANDLE("handle"), WITH("with"), RETURN("return"), END("end"),
        TRUE("true"), FALSE("false"), INT("int"), BOOL("bool"), UNIT("unit");

        final String letters;

        Word(String letters) {
            this.letters = letters;
        }
    }

    /**
     * The text in hand, and its words. Names and effects alike have one number, so that what comes
     * behind need not look at letters again. Behind a word that is none no other is told: it is a
     * fault once it is reached, and reading never gets past it.
     */
    private static final class Words {
        private static final Word[] KINDS = Word.values();
        private static final int MOST_LETTERS = 12;
        private static final int MOST_DIGITS = 9;

        private final Faults faults;
        private final byte[] text;
        int length;
        private final Word[] kinds;
        private final int[] places;
        private final int[] values;
        private int count;
        private int current;
        /** Of the word that is looked at; value the number of a number, name or effect. */
        Word kind;
        int place;
        int value;

        Words(Faults faults) {
            this.faults = faults;
            text = new byte[TEXT_BYTES];
            length = 0;
            kinds = new Word[TEXT_BYTES + 1];
            places = new int[TEXT_BYTES + 1];
            values = new int[TEXT_BYTES + 1];
            count = 0;
            current = 0;
            kind = Word.END_OF_TEXT;
            place = 0;
            value = 0;
        }

        void append(byte[] bytes, int n) {
            System.arraycopy(bytes, 0, text, length, n);
            length += n;
        }

        void clear() {
            length = 0;
        }

        void toFirst() {
            current = -1;
            toNext();
        }

        void toNext() {
            if (current < count - 1) {
                current++;
            }
            kind = kinds[current];
            place = places[current];
            value = values[current];
            if (kind == Word.NO_WORD) {
                faults.refuse(Faults.NO_WORD, place);
            }
        }

        void split() {
            count = 0;
            int at = 0;
            boolean isWord = true;
            while (at < length && isWord) {
                if (text[at] == ' ' || text[at] == '\n') {
                    at++;
                } else {
                    int end = endOfWord(at);
                    addWord(at, end);
                    isWord = kinds[count - 1] != Word.NO_WORD;
                    at = end;
                }
            }
            kinds[count] = Word.END_OF_TEXT;
            places[count] = length;
            values[count] = 0;
            count++;
        }

        /** Always behind from. */
        private int endOfWord(int from) {
            int end = from + 1;
            if (isLetter(text[from])) {
                while (end < length && (isLetter(text[end]) || isDigit(text[end]))) {
                    end++;
                }
            } else if (isDigit(text[from])) {
                while (end < length && isDigit(text[end])) {
                    end++;
                }
            } else if (text[from] == '-' && end < length && text[end] == '>') {
                end++;
            }
            return end;
        }

        private void addWord(int from, int end) {
            places[count] = from;
            values[count] = 0;
            if (isDigit(text[from])) {
                kinds[count] = end - from <= MOST_DIGITS ? Word.NUMBER : Word.NO_WORD;
                values[count] = number(from, end);
            } else {
                kinds[count] = spelled(from, end);
                if (kinds[count] == Word.NAME || kinds[count] == Word.EFFECT) {
                    values[count] = numberOfName(from, end);
                }
            }
            count++;
        }

        private int number(int from, int end) {
            int number = 0;
            for (int i = from; i < end; i++) {
                number = number * 10 + (text[i] - '0');
            }
            return number;
        }

        private Word spelled(int from, int end) {
            for (Word word : KINDS) {
                if (word.letters.length() == end - from && isSpelled(word.letters, from)) {
                    return word;
                }
            }
            if (!isLetter(text[from]) || end - from > MOST_LETTERS) {
                return Word.NO_WORD;
            }
            return text[from] >= 'a' ? Word.NAME : Word.EFFECT;
        }

        private boolean isSpelled(String letters, int from) {
            for (int i = 0; i < letters.length(); i++) {
                if (text[from + i] != letters.charAt(i)) {
                    return false;
                }
            }
            return true;
        }

        /** The number is the place of the first word that is the same. */
        private int numberOfName(int from, int end) {
            for (int i = 0; i < count; i++) {
                boolean isName = kinds[i] == Word.NAME || kinds[i] == Word.EFFECT;
                if (isName && isSame(places[i], from, end)) {
                    return places[i];
                }
            }
            return from;
        }

        private boolean isSame(int earlier, int from, int end) {
            int size = end - from;
            for (int i = 0; i < size; i++) {
                if (text[earlier + i] != text[from + i]) {
                    return false;
                }
            }
            return endOfWord(earlier) == earlier + size;
        }

        private static boolean isLetter(byte b) {
            return b >= 'a' && b <= 'z' || b >= 'A' && b <= 'Z';
        }

        private static boolean isDigit(byte b) {
            return b >= '0' && b <= '9';
        }
    }

    /** The types of a program. Types alike have one number, so that the same is ==. */
    private static final class Types {
        static final int INT = 0;
        static final int BOOL = 1;
        static final int UNIT = 2;
        static final int FUNCTION = 3;
        static final int MOST_NESTED = 50;

        private int[] argument;
        private int[] result;
        private int[] row;
        private int[] size;
        private int count;

        Types() {
            argument = new int[64];
            result = new int[64];
            row = new int[64];
            size = new int[64];
            clear();
        }

        void clear() {
            count = FUNCTION;
            size[INT] = 1;
            size[BOOL] = 1;
            size[UNIT] = 1;
        }

        boolean isFunction(int type) {
            return type >= FUNCTION;
        }

        int function(int from, int to, int effects) {
            for (int i = FUNCTION; i < count; i++) {
                if (argument[i] == from && result[i] == to && row[i] == effects) {
                    return i;
                }
            }
            argument = atLeast(argument, count + 1);
            result = atLeast(result, count + 1);
            row = atLeast(row, count + 1);
            size = atLeast(size, count + 1);
            argument[count] = from;
            result[count] = to;
            row[count] = effects;
            size[count] = 1 + size[from] + size[to];
            count++;
            return count - 1;
        }

        int argumentOf(int function) {
            return argument[function];
        }

        int resultOf(int function) {
            return result[function];
        }

        int rowOf(int function) {
            return row[function];
        }

        /**
         * Results may stand in one another as often as there are functions, but arguments only as
         * often as TYPEs may, since each is written: so results are a loop, arguments recursion.
         */
        boolean fits(int one, int other, int depth) {
            int a = one;
            int b = other;
            for (int i = 0; i < count && a != b; i++) {
                if (!isFunction(a) || !isFunction(b) || (row[a] & ~row[b]) != 0) {
                    return false;
                }
                if (depth > MOST_NESTED || !fits(argument[b], argument[a], depth + 1)) {
                    return false;
                }
                a = result[a];
                b = result[b];
            }
            return a == b;
        }

        /** Node k of a type as it is written, or NONE. */
        int node(int type, int k) {
            if (k < 0 || k >= size[type]) {
                return NONE;
            }
            int node = type;
            int left = k;
            while (left > 0) {
                left--;
                int sizeOfArgument = size[argument[node]];
                if (left < sizeOfArgument) {
                    node = argument[node];
                } else {
                    left -= sizeOfArgument;
                    node = result[node];
                }
            }
            return node;
        }
    }

    /** The effects that the text declares. */
    private static final class Declarations {
        static final int MOST = 8;

        final int[] name;
        final int[] argument;
        final int[] result;
        int count;

        Declarations() {
            name = new int[MOST];
            argument = new int[MOST];
            result = new int[MOST];
            count = 0;
        }

        int find(int effectName) {
            for (int i = 0; i < count; i++) {
                if (name[i] == effectName) {
                    return i;
                }
            }
            return NONE;
        }
    }

    /** What the instructions do. Those told as checked only do nothing when they run. */
    private static final class Op {
        /** a the value, b its type. */
        static final int VALUE = 0;
        /** a the name, b its place; LOCAL or OUTER once it is checked. */
        static final int NAME = 1;
        /** a which of the frame's own values. */
        static final int LOCAL = 2;
        /** a which of the values that the frame's record holds. */
        static final int OUTER = 3;
        /** a the name, then which of the frame's own values. */
        static final int BIND = 4;
        /** Checked only: the end of what BIND bound. */
        static final int FORGET = 5;
        /** a where to go on if it is false. */
        static final int TEST = 6;
        /** a where to go on. */
        static final int SKIP = 7;
        /** Checked only: the end of an if. */
        static final int JOIN = 8;
        static final int PLUS = 9;
        static final int MINUS = 10;
        static final int TIMES = 11;
        static final int LESS = 12;
        static final int SAME = 13;
        /** Checked only: what stands ahead of an argument. */
        static final int CALLEE = 14;
        static final int CALL = 15;
        /** a the effect. */
        static final int PERFORM = 16;
        /** a the name, then how many names it closes over; b the type; c its end; d its room. */
        static final int FN = 17;
        static final int FN_END = 18;
        /** As FN, but b the function's type, d the second name first. */
        static final int REC = 19;
        static final int REC_END = 20;
        /** a how many names it closes over; b the first clause or 0; c its end; d its room. */
        static final int HANDLE = 21;
        /** a the name, b the row. */
        static final int RETURN = 22;
        static final int RETURN_END = 23;
        /** a the first name, b the next clause or 0, c the effect, d the second name. */
        static final int CLAUSE = 24;
        static final int CLAUSE_END = 25;
        /** Checked only: the end of a handle. */
        static final int HANDLE_END = 26;
        /** a 0: the program closes over nothing. */
        static final int STOP = 27;
    }

    /** The program: its instructions, and what was found of it. */
    private static final class Code {
        int[] op;
        int[] a;
        int[] b;
        int[] c;
        int[] d;
        /** Where the EXPR begins whose end an instruction is; of a CLAUSE where its effect stands. */
        int[] from;
        int count;
        int nodes;
        int type;
        int effects;
        /** How many values of its own the program's frame needs. */
        int room;

        Code() {
            op = new int[128];
            a = new int[128];
            b = new int[128];
            c = new int[128];
            d = new int[128];
            from = new int[128];
            clear();
        }

        void clear() {
            count = 0;
            nodes = 0;
            type = Types.UNIT;
            effects = 0;
            room = 0;
        }

        int add(int newOp, int newA, int newB, int newFrom) {
            op = atLeast(op, count + 1);
            a = atLeast(a, count + 1);
            b = atLeast(b, count + 1);
            c = atLeast(c, count + 1);
            d = atLeast(d, count + 1);
            from = atLeast(from, count + 1);
            op[count] = newOp;
            a[count] = newA;
            b[count] = newB;
            c[count] = 0;
            d[count] = 0;
            from[count] = newFrom;
            count++;
            return count - 1;
        }
    }

    /**
     * Reads the text. The word that is looked at is always the next one, so a fault is told at its
     * place; a word that is none is refused as soon as it is next, ahead of all else there.
     */
    private static final class Reader {
        private static final int MOST_NODES = 600;
        private static final int MOST_NESTED = 50;
        /** In one EXPR one operator of each rank may wait for what stands behind it. */
        private static final int RANKS = 3;

        private final Words words;
        private final Faults faults;
        private final Types types;
        private final Declarations declared;
        private final Code code;
        private final int[] waitingOp;
        private final int[] waitingFrom;
        private int waiting;

        Reader(Words words, Faults faults, Types types, Declarations declared, Code code) {
            this.words = words;
            this.faults = faults;
            this.types = types;
            this.declared = declared;
            this.code = code;
            waitingOp = new int[RANKS * MOST_NESTED];
            waitingFrom = new int[RANKS * MOST_NESTED];
            waiting = 0;
        }

        void readProgram() {
            code.clear();
            types.clear();
            declared.count = 0;
            waiting = 0;
            words.toFirst();
            for (int i = 0; i <= Declarations.MOST && words.kind == Word.DECLARE; i++) {
                declaration();
            }
            int first = words.place;
            expr(0);
            if (words.kind != Word.END_OF_TEXT) {
                refuseWord();
            }
            code.add(Op.STOP, 0, 0, first);
        }

        private void declaration() {
            if (declared.count == Declarations.MOST) {
                faults.refuse(Faults.LIMIT, words.place);
            }
            words.toNext();
            if (words.kind != Word.EFFECT) {
                refuseWord();
            }
            if (declared.find(words.value) != NONE) {
                faults.refuse(Faults.UNDECLARED, words.place);
            }
            int effect = declared.count;
            declared.name[effect] = words.value;
            declared.count++;
            words.toNext();
            expect(Word.COLON);
            declared.argument[effect] = writtenType(0);
            expect(Word.ARROW);
            declared.result[effect] = writtenType(0);
            expect(Word.SEMICOLON);
        }

        private int writtenType(int depth) {
            if (depth == Types.MOST_NESTED) {
                faults.refuse(Faults.LIMIT, words.place);
            }
            Word first = words.kind;
            if (first != Word.OPEN && first != Word.INT && first != Word.BOOL && first != Word.UNIT) {
                refuseWord();
            }
            words.toNext();
            if (first != Word.OPEN) {
                return plainType(first);
            }
            int argument = writtenType(depth + 1);
            expect(Word.ARROW);
            int result = writtenType(depth + 1);
            int effects = row();
            expect(Word.CLOSE);
            return types.function(argument, result, effects);
        }

        private static int plainType(Word word) {
            if (word == Word.INT) {
                return Types.INT;
            }
            return word == Word.BOOL ? Types.BOOL : Types.UNIT;
        }

        private int row() {
            if (words.kind != Word.OPEN_ROW) {
                return 0;
            }
            words.toNext();
            int effects = 0;
            boolean more = words.kind != Word.CLOSE_ROW;
            for (int i = 0; i < TEXT_BYTES && more; i++) {
                effects |= 1 << effect();
                words.toNext();
                more = words.kind == Word.COMMA;
                if (more) {
                    words.toNext();
                }
            }
            if (words.kind != Word.CLOSE_ROW) {
                refuseWord();
            }
            words.toNext();
            return effects;
        }

        private void expr(int depth) {
            if (depth >= MOST_NESTED) {
                faults.refuse(Faults.LIMIT, words.place);
            }
            switch (words.kind) {
                case LET:
                    let(depth);
                    break;
                case REC:
                    rec(depth);
                    break;
                case IF:
                    choice(depth);
                    break;
                case FN:
                    fn(depth);
                    break;
                case HANDLE:
                    handle(depth);
                    break;
                default:
                    operation(depth);
                    break;
            }
        }

        private void let(int depth) {
            int first = keyword();
            int name = name();
            expect(Word.SAME);
            expr(depth + 1);
            expect(Word.IN);
            code.add(Op.BIND, name, 0, first);
            expr(depth + 1);
            code.add(Op.FORGET, 0, 0, first);
        }

        private void rec(int depth) {
            int first = keyword();
            int name = name();
            expect(Word.OPEN);
            int parameter = name();
            expect(Word.COLON);
            int argument = writtenType(0);
            expect(Word.CLOSE);
            expect(Word.COLON);
            int result = writtenType(0);
            int effects = row();
            expect(Word.SAME);
            int rec = code.add(Op.REC, name, types.function(argument, result, effects), first);
            code.d[rec] = parameter;
            expr(depth + 1);
            code.c[rec] = code.count;
            code.add(Op.REC_END, 0, 0, first);
            expect(Word.IN);
            code.add(Op.BIND, name, 0, first);
            expr(depth + 1);
            code.add(Op.FORGET, 0, 0, first);
        }

        private void choice(int depth) {
            int first = keyword();
            expr(depth + 1);
            expect(Word.THEN);
            int test = code.add(Op.TEST, 0, 0, first);
            expr(depth + 1);
            expect(Word.ELSE);
            int skip = code.add(Op.SKIP, 0, 0, first);
            code.a[test] = code.count;
            expr(depth + 1);
            code.a[skip] = code.count;
            code.add(Op.JOIN, 0, 0, first);
        }

        private void fn(int depth) {
            int first = keyword();
            expect(Word.OPEN);
            int parameter = name();
            expect(Word.COLON);
            int argument = writtenType(0);
            expect(Word.CLOSE);
            expect(Word.ARROW);
            int fn = code.add(Op.FN, parameter, argument, first);
            expr(depth + 1);
            code.c[fn] = code.count;
            code.add(Op.FN_END, 0, 0, first);
        }

        private void handle(int depth) {
            int first = keyword();
            int handle = code.add(Op.HANDLE, 0, 0, first);
            expr(depth + 1);
            expect(Word.WITH);
            int effects = row();
            expect(Word.RETURN);
            int name = name();
            expect(Word.ARROW);
            code.add(Op.RETURN, name, effects, first);
            expr(depth + 1);
            code.add(Op.RETURN_END, 0, 0, first);
            int last = handle;
            for (int i = 0; i < TEXT_BYTES && words.kind == Word.BAR; i++) {
                last = clause(depth, last);
            }
            expect(Word.END);
            code.c[handle] = code.count;
            code.add(Op.HANDLE_END, 0, 0, first);
        }

        private int clause(int depth, int last) {
            words.toNext();
            int place = words.place;
            int effect = effect();
            words.toNext();
            int argument = name();
            int continuation = name();
            expect(Word.ARROW);
            int clause = code.add(Op.CLAUSE, argument, 0, place);
            code.c[clause] = effect;
            code.d[clause] = continuation;
            code.b[last] = clause;
            expr(depth + 1);
            code.add(Op.CLAUSE_END, 0, 0, place);
            return clause;
        }

        /** CALLs with operators between: one waits until none that binds as tightly can follow. */
        private void operation(int depth) {
            int floor = waiting;
            int left = words.place;
            call(depth);
            for (int i = 0; i < TEXT_BYTES && mayOperate(floor); i++) {
                int op = operator();
                left = settle(floor, rank(op), left);
                waitingOp[waiting] = op;
                waitingFrom[waiting] = left;
                waiting++;
                words.toNext();
                left = words.place;
                call(depth);
            }
            settle(floor, 0, left);
        }

        private boolean mayOperate(int floor) {
            int op = operator();
            if (op == NONE) {
                return false;
            }
            boolean compared = waiting > floor && rank(waitingOp[floor]) == 0;
            return !(compared && rank(op) == 0);
        }

        private int operator() {
            switch (words.kind) {
                case LESS:
                    return Op.LESS;
                case SAME:
                    return Op.SAME;
                case PLUS:
                    return Op.PLUS;
                case MINUS:
                    return Op.MINUS;
                case TIMES:
                    return Op.TIMES;
                default:
                    return NONE;
            }
        }

        private static int rank(int op) {
            if (op == Op.TIMES) {
                return 2;
            }
            return op == Op.PLUS || op == Op.MINUS ? 1 : 0;
        }

        /** Answers where the operand begins that stands ahead of the next operator. */
        private int settle(int floor, int rank, int left) {
            int from = left;
            while (waiting > floor && rank(waitingOp[waiting - 1]) >= rank) {
                waiting--;
                from = waitingFrom[waiting];
                code.add(waitingOp[waiting], 0, 0, from);
                countNode();
            }
            return from;
        }

        private void call(int depth) {
            int first = words.place;
            if (words.kind == Word.EFFECT) {
                int effect = effect();
                words.toNext();
                expect(Word.PERFORM);
                countNode();
                atom(depth);
                code.add(Op.PERFORM, effect, 0, first);
                return;
            }
            atom(depth);
            for (int i = 0; i < TEXT_BYTES && isAtom(); i++) {
                code.add(Op.CALLEE, 0, 0, first);
                atom(depth);
                code.add(Op.CALL, 0, 0, first);
                countNode();
            }
        }

        private boolean isAtom() {
            switch (words.kind) {
                case NUMBER:
                case TRUE:
                case FALSE:
                case NAME:
                case OPEN:
                    return true;
                default:
                    return false;
            }
        }

        private void atom(int depth) {
            switch (words.kind) {
                case NUMBER:
                    value(words.value, Types.INT, words.place);
                    break;
                case TRUE:
                    value(1, Types.BOOL, words.place);
                    break;
                case FALSE:
                    value(0, Types.BOOL, words.place);
                    break;
                case NAME:
                    code.add(Op.NAME, words.value, words.place, words.place);
                    words.toNext();
                    countNode();
                    break;
                case OPEN:
                    int first = words.place;
                    words.toNext();
                    if (words.kind == Word.CLOSE) {
                        value(0, Types.UNIT, first);
                        break;
                    }
                    expr(depth + 1);
                    expect(Word.CLOSE);
                    code.from[code.count - 1] = first;
                    break;
                default:
                    refuseWord();
                    break;
            }
        }

        private void value(int value, int type, int first) {
            code.add(Op.VALUE, value, type, first);
            words.toNext();
            countNode();
        }

        private void countNode() {
            code.nodes++;
            if (code.nodes > MOST_NODES) {
                faults.refuse(Faults.LIMIT, words.place);
            }
        }

        /** Goes behind the keyword of an EXPR, which is a node: where it stands. */
        private int keyword() {
            int first = words.place;
            words.toNext();
            countNode();
            return first;
        }

        private int name() {
            int name = words.value;
            expect(Word.NAME);
            return name;
        }

        /** The effect that is looked at; the caller goes behind it. */
        private int effect() {
            if (words.kind != Word.EFFECT) {
                faults.refuse(Faults.CANNOT_STAND, words.place);
            }
            int effect = declared.find(words.value);
            if (effect == NONE) {
                faults.refuse(Faults.UNDECLARED, words.place);
            }
            return effect;
        }

        private void expect(Word kind) {
            if (words.kind != kind) {
                refuseWord();
            }
            words.toNext();
        }

        private void refuseWord() {
            faults.refuse(Faults.CANNOT_STAND, words.place);
        }
    }

    /**
     * Checks the instructions from left to right and gives each name its place. HELD are the EXPRs
     * that have ended and whose whole has not; REGIONS are the fns, recs and handles that are open:
     * what is bound inside of one lies in frames of its own, what is bound around it in its record.
     */
    private static final class Checker {
        private static final int MOST_HELD = 256;
        private static final int MOST_NAMES = 128;
        private static final int MOST_REGIONS = 64;

        private final Faults faults;
        private final Types types;
        private final Declarations declared;
        private final Code code;
        private final int[] heldType;
        private final int[] heldEffects;
        private final int[] heldFrom;
        private int held;
        private final int[] name;
        private final int[] nameType;
        private int names;
        private final int[] regionOpener;
        private final int[] regionFloor;
        private final int[] regionMost;
        private final int[] regionRow;
        private final int[] regionClauses;
        private int region;

        Checker(Faults faults, Types types, Declarations declared, Code code) {
            this.faults = faults;
            this.types = types;
            this.declared = declared;
            this.code = code;
            heldType = new int[MOST_HELD];
            heldEffects = new int[MOST_HELD];
            heldFrom = new int[MOST_HELD];
            name = new int[MOST_NAMES];
            nameType = new int[MOST_NAMES];
            regionOpener = new int[MOST_REGIONS];
            regionFloor = new int[MOST_REGIONS];
            regionMost = new int[MOST_REGIONS];
            regionRow = new int[MOST_REGIONS];
            regionClauses = new int[MOST_REGIONS];
        }

        void checkProgram() {
            held = 0;
            names = 0;
            region = 0;
            regionFloor[0] = 0;
            regionMost[0] = 0;
            for (int at = 0; at < code.count; at++) {
                if (code.op[at] < Op.FN) {
                    checkPart(at);
                } else {
                    checkRegion(at);
                }
            }
            code.type = heldType[0];
            code.effects = heldEffects[0];
            code.room = regionMost[0];
        }

        private void checkPart(int at) {
            switch (code.op[at]) {
                case Op.VALUE:
                    hold(code.b[at], 0, at);
                    break;
                case Op.NAME:
                    checkName(at);
                    break;
                case Op.BIND:
                    checkBind(at);
                    break;
                case Op.FORGET:
                    names--;
                    join(2, heldType[held - 1], at);
                    break;
                case Op.TEST:
                    wantType(held - 1, Types.BOOL);
                    break;
                case Op.JOIN:
                    wantType(held - 1, heldType[held - 2]);
                    join(3, heldType[held - 1], at);
                    break;
                case Op.PLUS:
                case Op.MINUS:
                case Op.TIMES:
                    checkOperands(Types.INT, at);
                    break;
                case Op.LESS:
                case Op.SAME:
                    checkOperands(Types.BOOL, at);
                    break;
                case Op.CALLEE:
                    if (!types.isFunction(heldType[held - 1])) {
                        faults.refuse(Faults.WRONG_TYPE, heldFrom[held - 1]);
                    }
                    break;
                case Op.CALL:
                    checkCall(at);
                    break;
                case Op.PERFORM:
                    checkPerform(at);
                    break;
                default:
                    break;
            }
        }

        private void checkRegion(int at) {
            switch (code.op[at]) {
                case Op.FN:
                    openRegion(at);
                    bind(code.a[at], code.b[at]);
                    code.a[at] = regionFloor[region];
                    break;
                case Op.FN_END:
                    checkFnEnd(at);
                    break;
                case Op.REC:
                    openRegion(at);
                    bind(code.a[at], code.b[at]);
                    bind(code.d[at], types.argumentOf(code.b[at]));
                    code.a[at] = regionFloor[region];
                    break;
                case Op.REC_END:
                    checkRecEnd(at);
                    break;
                case Op.HANDLE:
                    openRegion(at);
                    code.a[at] = regionFloor[region];
                    break;
                case Op.RETURN:
                    regionRow[region] = code.b[at];
                    bind(code.a[at], heldType[held - 1]);
                    break;
                case Op.RETURN_END:
                    wantInRow(held - 1, regionRow[region]);
                    names--;
                    break;
                case Op.CLAUSE:
                    checkClause(at);
                    break;
                case Op.CLAUSE_END:
                    checkClauseEnd();
                    break;
                case Op.HANDLE_END:
                    checkHandleEnd(at);
                    break;
                default:
                    break;
            }
        }

        private void checkName(int at) {
            int which = names - 1;
            while (which >= 0 && name[which] != code.a[at]) {
                which--;
            }
            if (which < 0) {
                faults.refuse(Faults.UNKNOWN_NAME, code.b[at]);
            }
            hold(nameType[which], 0, at);
            boolean local = which >= regionFloor[region];
            code.op[at] = local ? Op.LOCAL : Op.OUTER;
            code.a[at] = local ? which - regionFloor[region] : which;
        }

        /** What is bound stays held, for its effects are those of the whole, too. */
        private void checkBind(int at) {
            int slot = names - regionFloor[region];
            bind(code.a[at], heldType[held - 1]);
            code.a[at] = slot;
        }

        private void checkOperands(int type, int at) {
            wantType(held - 2, Types.INT);
            wantType(held - 1, Types.INT);
            join(2, type, at);
        }

        private void checkCall(int at) {
            int function = heldType[held - 2];
            wantFit(held - 1, types.argumentOf(function));
            heldEffects[held - 2] |= types.rowOf(function);
            join(2, types.resultOf(function), at);
        }

        private void checkPerform(int at) {
            int effect = code.a[at];
            wantFit(held - 1, declared.argument[effect]);
            heldEffects[held - 1] |= 1 << effect;
            join(1, declared.result[effect], at);
        }

        private void checkFnEnd(int at) {
            int parameter = nameType[regionFloor[region]];
            held--;
            int type = types.function(parameter, heldType[held], heldEffects[held]);
            names--;
            closeRegion();
            hold(type, 0, at);
        }

        private void checkRecEnd(int at) {
            int type = nameType[regionFloor[region]];
            wantFit(held - 1, types.resultOf(type));
            wantInRow(held - 1, types.rowOf(type));
            held--;
            names -= 2;
            closeRegion();
            hold(type, 0, at);
        }

        private void checkClause(int at) {
            int effect = code.c[at];
            if ((regionClauses[region] >> effect & 1) != 0) {
                faults.refuse(Faults.TWO_CLAUSES, code.from[at]);
            }
            regionClauses[region] |= 1 << effect;
            bind(code.a[at], declared.argument[effect]);
            int answer = heldType[held - 1];
            bind(code.d[at], types.function(declared.result[effect], answer, regionRow[region]));
        }

        private void checkClauseEnd() {
            wantFit(held - 1, heldType[held - 2]);
            wantInRow(held - 1, regionRow[region]);
            held--;
            names -= 2;
        }

        private void checkHandleEnd(int at) {
            wantInRow(held - 2, regionRow[region] | regionClauses[region]);
            int answer = heldType[held - 1];
            held -= 2;
            hold(answer, regionRow[region], at);
            closeRegion();
        }

        private void openRegion(int opener) {
            region++;
            regionOpener[region] = opener;
            regionFloor[region] = names;
            regionMost[region] = names;
            regionRow[region] = 0;
            regionClauses[region] = 0;
        }

        private void closeRegion() {
            code.d[regionOpener[region]] = regionMost[region] - regionFloor[region];
            region--;
        }

        private void bind(int newName, int type) {
            name[names] = newName;
            nameType[names] = type;
            names++;
            regionMost[region] = Math.max(regionMost[region], names);
        }

        private void hold(int type, int effects, int at) {
            heldType[held] = type;
            heldEffects[held] = effects;
            heldFrom[held] = code.from[at];
            held++;
        }

        /** The last parts held become one whole, with the effects of them all. */
        private void join(int parts, int type, int at) {
            int effects = 0;
            for (int i = 0; i < parts; i++) {
                held--;
                effects |= heldEffects[held];
            }
            hold(type, effects, at);
        }

        private void wantType(int which, int type) {
            if (heldType[which] != type) {
                faults.refuse(Faults.WRONG_TYPE, heldFrom[which]);
            }
        }

        private void wantFit(int which, int type) {
            if (!types.fits(heldType[which], type, 0)) {
                faults.refuse(Faults.WRONG_TYPE, heldFrom[which]);
            }
        }

        private void wantInRow(int which, int row) {
            if ((heldEffects[which] & ~row) != 0) {
                faults.refuse(Faults.BEYOND_ROW, heldFrom[which]);
            }
        }
    }

    /**
     * Runs the program. Whatever counts for DEPTH has one frame on the stack: a head, its own
     * values, then what waits for the end of an EXPR. Frames tell how far they lie from the one
     * below, so a continuation is a piece of the stack that can be laid down anywhere. What a
     * function or handler closes over, and continuations, are records: never given back, as THINGS
     * keeps them few.
     */
    private static final class Machine {
        static final int NOT_BEGUN = 0;
        static final int RUNS = 1;
        static final int DONE = 2;
        static final int TWICE = 3;
        static final int UNHANDLED = 4;
        static final int FULL = 5;
        static final int DEEP = 6;
        private static final int MOST_THINGS = 1000;
        private static final int MOST_DEPTH = 400;
        /** Far above what 2000 calls of the longest text can need. */
        private static final int MOST_STEPS = 100000000;

        /** Of a frame's head: where to go on, how far below that lies, its record, its handle. */
        private static final int BACK = 0;
        private static final int BELOW = 1;
        private static final int RECORD = 2;
        private static final int HANDLER = 3;
        private static final int HEAD = 4;
        /** Of a continuation's record, behind the PERFORM that made it. */
        private static final int GONE_ON = 1;
        private static final int FRAMES = 2;
        private static final int TOP_FRAME = 3;
        private static final int LENGTH = 4;
        private static final int PIECE = 5;

        private final Code code;
        private int[] stack;
        private int top;
        private int base;
        private int[] records;
        private int recorded;
        private int at;
        int status;
        int value;
        int unhandled;
        int fuel;
        int things;
        int depth;

        Machine(Code code) {
            this.code = code;
            stack = new int[256];
            records = new int[256];
            clear();
        }

        void clear() {
            status = NOT_BEGUN;
            value = 0;
            unhandled = NONE;
            fuel = 0;
            things = 0;
            depth = 0;
        }

        void begin() {
            clear();
            status = RUNS;
            at = 0;
            top = 0;
            base = 0;
            recorded = 0;
            int record = newRecord(code.count - 1, 1);
            openFrame(0, record, NONE, code.room);
        }

        int goAhead(int most) {
            int before = fuel;
            for (int i = 0; i < MOST_STEPS && status == RUNS; i++) {
                if (fuel - before == most && takesFuel()) {
                    break;
                }
                if (code.op[at] < Op.CALLEE) {
                    step();
                } else {
                    stepRegion();
                }
            }
            return fuel - before;
        }

        private boolean takesFuel() {
            return code.op[at] == Op.CALL || code.op[at] == Op.PERFORM;
        }

        private void step() {
            switch (code.op[at]) {
                case Op.VALUE:
                    push(code.a[at]);
                    at++;
                    break;
                case Op.LOCAL:
                    push(stack[base + HEAD + code.a[at]]);
                    at++;
                    break;
                case Op.OUTER:
                    push(records[stack[base + RECORD] + 1 + code.a[at]]);
                    at++;
                    break;
                case Op.BIND:
                    stack[base + HEAD + code.a[at]] = pop();
                    at++;
                    break;
                case Op.TEST:
                    at = pop() != 0 ? at + 1 : code.a[at];
                    break;
                case Op.SKIP:
                    at = code.a[at];
                    break;
                case Op.PLUS:
                case Op.MINUS:
                case Op.TIMES:
                case Op.LESS:
                case Op.SAME:
                    operate(code.op[at]);
                    at++;
                    break;
                default:
                    at++;
                    break;
            }
        }

        private void stepRegion() {
            switch (code.op[at]) {
                case Op.CALL:
                    fuel++;
                    call();
                    break;
                case Op.PERFORM:
                    fuel++;
                    perform(code.a[at]);
                    break;
                case Op.FN:
                case Op.REC:
                    makeFunction();
                    break;
                case Op.HANDLE:
                    handle();
                    break;
                case Op.RETURN:
                    stack[base + HEAD] = pop();
                    stack[base + HANDLER] = NONE;
                    at++;
                    break;
                case Op.FN_END:
                case Op.REC_END:
                case Op.RETURN_END:
                case Op.CLAUSE_END:
                    closeFrame();
                    break;
                case Op.STOP:
                    finish();
                    break;
                default:
                    at++;
                    break;
            }
        }

        private void operate(int op) {
            int right = pop();
            int left = pop();
            switch (op) {
                case Op.PLUS:
                    push(left + right);
                    break;
                case Op.MINUS:
                    push(left - right);
                    break;
                case Op.TIMES:
                    push(left * right);
                    break;
                case Op.LESS:
                    push(left < right ? 1 : 0);
                    break;
                default:
                    push(left == right ? 1 : 0);
                    break;
            }
        }

        private void makeFunction() {
            if (things == MOST_THINGS) {
                status = FULL;
                return;
            }
            things++;
            push(closeOver());
            at = code.c[at] + 1;
        }

        private void handle() {
            if (things == MOST_THINGS) {
                status = FULL;
            } else if (depth == MOST_DEPTH) {
                status = DEEP;
            } else {
                things++;
                depth++;
                openFrame(code.c[at], closeOver(), at, code.d[at]);
                at++;
            }
        }

        private void call() {
            int function = stack[top - 2];
            int maker = records[function];
            if (code.op[maker] == Op.PERFORM) {
                goOn(function);
            } else if (depth == MOST_DEPTH) {
                status = DEEP;
            } else {
                depth++;
                int argument = pop();
                top--;
                openFrame(at + 1, function, NONE, code.d[maker]);
                boolean isRec = code.op[maker] == Op.REC;
                stack[base + HEAD] = isRec ? function : argument;
                if (isRec) {
                    stack[base + HEAD + 1] = argument;
                }
                at = maker + 1;
            }
        }

        private void goOn(int continuation) {
            int frames = records[continuation + FRAMES];
            if (records[continuation + GONE_ON] != 0) {
                status = TWICE;
            } else if (depth + frames > MOST_DEPTH) {
                status = DEEP;
            } else {
                records[continuation + GONE_ON] = 1;
                depth += frames;
                int argument = pop();
                top--;
                layDown(continuation);
                at = records[continuation] + 1;
                push(argument);
            }
        }

        private void layDown(int continuation) {
            int length = records[continuation + LENGTH];
            stack = atLeast(stack, top + length);
            System.arraycopy(records, continuation + PIECE, stack, top, length);
            stack[top + BACK] = at + 1;
            stack[top + BELOW] = top - base;
            base = top + records[continuation + TOP_FRAME];
            top += length;
        }

        private void perform(int effect) {
            int frames = framesToHandler(effect);
            if (frames == 0) {
                status = UNHANDLED;
                unhandled = effect;
            } else if (things + 1 + frames > MOST_THINGS) {
                status = FULL;
            } else {
                things += 1 + frames;
                depth += 1 - frames;
                int argument = pop();
                int bottom = frameBelow(frames - 1);
                int handle = stack[bottom + HANDLER];
                int continuation = takeUp(bottom, frames);
                // The clause has the handler's way back and record, so it gets its frame, too.
                base = bottom;
                top = bottom + HEAD + code.d[handle];
                stack[base + HANDLER] = NONE;
                stack[base + HEAD] = argument;
                stack[base + HEAD + 1] = continuation;
                at = clauseOf(handle, effect) + 1;
            }
        }

        private int takeUp(int bottom, int frames) {
            int length = top - bottom;
            int continuation = newRecord(at, PIECE + length);
            records[continuation + GONE_ON] = 0;
            records[continuation + FRAMES] = frames;
            records[continuation + TOP_FRAME] = base - bottom;
            records[continuation + LENGTH] = length;
            System.arraycopy(stack, bottom, records, continuation + PIECE, length);
            return continuation;
        }

        /** How many frames there are from here to the handler's, with both; 0 without a handler. */
        private int framesToHandler(int effect) {
            int frame = base;
            for (int i = 1; i <= depth; i++) {
                int handle = stack[frame + HANDLER];
                if (handle != NONE && clauseOf(handle, effect) != 0) {
                    return i;
                }
                frame -= stack[frame + BELOW];
            }
            return 0;
        }

        private int frameBelow(int count) {
            int frame = base;
            for (int i = 0; i < count; i++) {
                frame -= stack[frame + BELOW];
            }
            return frame;
        }

        private int clauseOf(int handle, int effect) {
            int clause = code.b[handle];
            for (int i = 0; i < Declarations.MOST && clause != 0; i++) {
                if (code.c[clause] == effect) {
                    return clause;
                }
                clause = code.b[clause];
            }
            return 0;
        }

        /** A record with all values that have names here. */
        private int closeOver() {
            int count = code.a[at];
            int record = newRecord(at, 1 + count);
            int around = stack[base + RECORD];
            int outer = code.a[records[around]];
            System.arraycopy(records, around + 1, records, record + 1, outer);
            System.arraycopy(stack, base + HEAD, records, record + 1 + outer, count - outer);
            return record;
        }

        private int newRecord(int maker, int size) {
            int record = recorded;
            recorded += size;
            records = atLeast(records, recorded);
            records[record] = maker;
            return record;
        }

        private void openFrame(int back, int record, int handler, int room) {
            stack = atLeast(stack, top + HEAD + room);
            stack[top + BACK] = back;
            stack[top + BELOW] = top - base;
            stack[top + RECORD] = record;
            stack[top + HANDLER] = handler;
            base = top;
            top += HEAD + room;
        }

        private void closeFrame() {
            int result = pop();
            depth--;
            at = stack[base + BACK];
            top = base;
            base -= stack[base + BELOW];
            push(result);
        }

        private void finish() {
            status = DONE;
            value = code.type == Types.INT || code.type == Types.BOOL ? pop() : 0;
        }

        private void push(int pushed) {
            stack = atLeast(stack, top + 1);
            stack[top] = pushed;
            top++;
        }

        private int pop() {
            top--;
            return stack[top];
        }
    }
}
