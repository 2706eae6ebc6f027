import java.util.Arrays;

/**
 * A tallyman's slate: a small language of rows, of tables whose rows have unlike lengths, and of
 * packs of whatever there is.
 */
public final class TallySlate {
    public static final int NONE = -1;

    private static final int REFUSED = -2;
    private static final int MOST_TAPE = 1620;
    private static final int MOST_TEXT = 1600;
    private static final int MOST_FUEL = 20000;
    private static final int MOST_MARKS = 6;
    private static final int SHELF_COUNT = 8;

    // The kinds of things, as kind() tells them, and two that no program ever sees.
    private static final int BARE = -1;
    private static final int INT = 0;
    private static final int ROW = 1;
    private static final int TABLE = 2;
    private static final int PACK = 3;
    private static final int REFUSAL = 4;

    private static final int MOST_INTS = 64;
    private static final int MOST_PARTS = 20;
    private static final int MOST_IN_TABLE = 200;
    private static final int MOST_DEPTH = 4;
    private static final int MOST_BULK = 600;

    // The kinds of troubles.
    private static final int NO_SIZE = 1;
    private static final int TOO_GREAT = 2;
    private static final int WRONG_KIND = 3;
    private static final int UNLIKE = 4;
    private static final int NO_PLACE = 5;
    private static final int BY_ZERO = 6;
    private static final int HAS_NOTHING = 7;
    private static final int TOO_DEEP = 8;
    private static final int RAISED = 9;
    private static final int NO_FUEL = 10;
    private static final int TOO_MUCH_MADE = 11;

    private byte[] tape = new byte[320];
    private int taped;
    private final Parser parser = new Parser();
    private Program program = new Program();
    // Where the next text goes, so that the one before stays if that has a fault.
    private Program spare = new Program();
    private int faultKind = NONE;
    private int faultPlace = NONE;
    private Shelves shelves = new Shelves();
    private final Shelves[] marks = new Shelves[MOST_MARKS];
    private int marked;
    private final Heap heap = new Heap();
    private final Out said = new Out();
    private final Tally tally = new Tally();
    private final Machine machine = new Machine(heap, said, tally);

    public TallySlate() {
    }

    public int feed(int a, int b, int c, int d, int e) {
        if (taped + 20 > MOST_TAPE) {
            return NONE;
        }
        if (taped + 20 > tape.length) {
            tape = Arrays.copyOf(tape, Math.min(2 * tape.length, MOST_TAPE));
        }
        tapeFour(a);
        tapeFour(b);
        tapeFour(c);
        tapeFour(d);
        tapeFour(e);
        return taped;
    }

    public int load(int n) {
        if (n < 0 || n > taped) {
            return REFUSED;
        }
        taped = 0;
        if (n > MOST_TEXT) {
            faultKind = Parser.NO_TOKEN;
            faultPlace = MOST_TEXT;
            return NONE;
        }
        parser.compile(tape, n, spare);
        faultKind = parser.failKind();
        faultPlace = parser.failPlace();
        if (faultKind != 0) {
            return NONE;
        }
        Program before = program;
        program = spare;
        spare = before;
        return program.functions();
    }

    public int fault(int what) {
        if (what == 0) {
            return faultKind;
        }
        return what == 1 ? faultPlace : NONE;
    }

    public int function(int f, int what) {
        return program.told(f, what);
    }

    public int run(int f, int shelf, int fuel) {
        if (program.told(f, Program.PARAMETERS) != 0 || shelf != NONE && !isShelf(shelf)
                || fuel < 1 || fuel > MOST_FUEL) {
            return NONE;
        }
        said.empty();
        heap.empty();
        tally.begin(fuel);
        for (int s = 0; s < SHELF_COUNT; s++) {
            machine.lay(s, shelves.read(s, heap));
        }
        machine.go(program, f);
        if (tally.troubleKind() == 0) {
            keep(shelf);
        }
        return tally.troubleKind();
    }

    public int trouble(int what) {
        return tally.told(what);
    }

    public int out(int k) {
        return said.byteAt(k);
    }

    public int outs() {
        return said.total();
    }

    public int show(int shelf) {
        if (!isShelf(shelf) || shelves.kindOn(shelf) == BARE) {
            return NONE;
        }
        long thing = lookAt(shelf);
        said.empty();
        said.tell(heap, thing);
        return said.total();
    }

    public boolean set(int shelf, int v) {
        if (!isShelf(shelf)) {
            return false;
        }
        shelves.layInt(shelf, v);
        return true;
    }

    public boolean add(int shelf, int v) {
        return isShelf(shelf) && shelves.append(shelf, v);
    }

    public boolean clear(int shelf) {
        if (!isShelf(shelf) || shelves.kindOn(shelf) == BARE) {
            return false;
        }
        shelves.bare(shelf);
        return true;
    }

    public int kind(int shelf) {
        return isShelf(shelf) ? shelves.kindOn(shelf) : NONE;
    }

    public int size(int shelf, int i) {
        if (!isShelf(shelf) || shelves.kindOn(shelf) == BARE) {
            return NONE;
        }
        long thing = lookAt(shelf);
        if (i == NONE) {
            return heap.sizeOf(thing);
        }
        if (i < 0 || i >= heap.sizeOf(thing) || kindOf(thing) == ROW) {
            return NONE;
        }
        long part = heap.part(thing, i);
        return kindOf(thing) == TABLE ? heap.sizeOf(part) : kindOf(part);
    }

    public int cell(int shelf, int i, int j) {
        if (!isShelf(shelf) || shelves.kindOn(shelf) == BARE) {
            return 0;
        }
        long thing = lookAt(shelf);
        if (kindOf(thing) == INT) {
            return lowOf(thing);
        }
        if (i < 0 || i >= heap.sizeOf(thing)) {
            return 0;
        }
        long part = heap.part(thing, i);
        if (kindOf(part) == INT) {
            return lowOf(part);
        }
        return kindOf(part) == ROW && j >= 0 && j < heap.sizeOf(part) ? heap.intAt(part, j) : 0;
    }

    public boolean same(int a, int b) {
        return isShelf(a) && isShelf(b) && shelves.alike(a, b);
    }

    public int mark() {
        if (marked == MOST_MARKS) {
            dropOldest();
        }
        if (marks[marked] == null) {
            marks[marked] = new Shelves();
        }
        marks[marked].copy(shelves);
        marked++;
        return marked;
    }

    public boolean back() {
        if (marked == 0) {
            return false;
        }
        marked--;
        // The two change places, so that the next mark() has arrays to use again.
        Shelves kept = marks[marked];
        if (kept != null) {
            marks[marked] = shelves;
            shelves = kept;
        }
        return true;
    }

    public long sum() {
        long sum = 0;
        for (int s = 0; s < SHELF_COUNT; s++) {
            sum = shelves.sumOn(s, sum);
        }
        return sum;
    }

    private void tapeFour(int four) {
        for (int shift = 24; shift >= 0; shift -= 8) {
            tape[taped] = (byte) (four >> shift);
            taped++;
        }
    }

    private void keep(int shelf) {
        for (int s = 0; s < SHELF_COUNT; s++) {
            if (machine.touched(s)) {
                shelves.write(s, heap, machine.on(s));
            }
        }
        if (shelf != NONE) {
            shelves.write(shelf, heap, machine.given());
        }
    }

    private long lookAt(int shelf) {
        heap.empty();
        return shelves.read(shelf, heap);
    }

    private void dropOldest() {
        Shelves oldest = marks[0];
        for (int i = 1; i < MOST_MARKS; i++) {
            marks[i - 1] = marks[i];
        }
        marks[MOST_MARKS - 1] = oldest;
        marked--;
    }

    private static boolean isShelf(int shelf) {
        return shelf >= 0 && shelf < SHELF_COUNT;
    }

    // A thing is a long: its kind above; below an INT itself, or where the heap has the others.
    private static long thing(int kind, int low) {
        return (long) kind << 32 | low & 0xffffffffL;
    }

    private static long refusal(int kind) {
        return (long) REFUSAL << 32 | kind;
    }

    private static int kindOf(long thing) {
        return (int) (thing >> 32);
    }

    private static int lowOf(long thing) {
        return (int) thing;
    }

    /** The words that are no names: those of statements, and the built-ins with how many E they take. */
    private enum Word {
        FN("fn", 0, 0), IF("if", 0, 0), ELSE("else", 0, 0), WHILE("while", 0, 0), FOR("for", 0, 0),
        IN("in", 0, 0), SAY("say", 0, 0), RETURN("return", 0, 0), RAISE("raise", 0, 0),
        TRY("try", 0, 0), ON("on", 0, 0),
        NEW_ROW("row", 1, 1), IOTA("iota", 1, 1), NEW_PACK("pack", 1, 1), GRID("grid", 2, 2),
        ROWS("rows", 1, 1), BOX("box", 0, 6), SIZE("size", 1, 1), WIDTHS("widths", 1, 1),
        KIND("kind", 1, 1), SUM("sum", 1, 1), MAX("max", 1, 1), MIN("min", 1, 1),
        SCAN("scan", 1, 1), SORT("sort", 1, 1), GRADE("grade", 1, 1), BACK("back", 1, 1),
        FLAT("flat", 1, 1), TURN("turn", 1, 1), GROUP("group", 1, 1), JOIN("join", 2, 2),
        TAKE("take", 2, 2), DROP("drop", 2, 2), CUT("cut", 2, 2), PICK("pick", 2, 2),
        FIND("find", 2, 2), PAD("pad", 2, 2), OUTER("outer", 2, 2), SAME("same", 2, 2),
        EACH("each", 2, 2), FOLD("fold", 3, 3);

        private static final Word[] ALL = values();

        private final long code;
        private final int least;
        private final int most;

        Word(String text, int least, int most) {
            long letters = 0;
            for (int i = 0; i < text.length(); i++) {
                letters = letters * 32 + text.charAt(i) - 96;
            }
            this.code = letters;
            this.least = least;
            this.most = most;
        }

        /** The number of the word of these letters, or NONE if they are a name. */
        static int numberOf(long code) {
            for (int i = 0; i < ALL.length; i++) {
                if (ALL[i].code == code) {
                    return i;
                }
            }
            return NONE;
        }

        static Word numbered(long number) {
            return number >= 0 && number < ALL.length ? ALL[(int) number] : FN;
        }

        boolean isBuiltIn() {
            return most > 0;
        }
    }

    /** A text's tokens. A sign's kind is its character, with 256 more if a = belongs to it. */
    private static final class Tokens {
        static final int END = 0;
        static final int BAD = 1;
        static final int NUMBER = 2;
        static final int NAME = 3;
        static final int WORD = 4;
        static final int WITH_EQUAL = 256;

        private static final String SIGNS = "{}()[];,=<>+-*/%&|!";
        private static final String BEFORE_EQUAL = "=!<>";
        private static final int MOST_LETTERS = 8;
        private static final int MOST_DIGITS = 10;

        private int[] kinds = new int[32];
        private int[] places = new int[32];
        // A NUMBER's value, a WORD's number, a NAME's letters (5 bits each: a to h are 1 to 8).
        private long[] values = new long[32];
        private int count;
        private int now;
        private int kindNow;
        private int placeNow;
        private long valueNow;

        /** Goes over a text; its first token is the one that stands there now. */
        void scan(byte[] text, int n) {
            count = 0;
            now = NONE;
            int length = Math.min(n, text.length);
            int at = 0;
            for (int i = 0; i <= length && at >= 0; i++) {
                at = scanOne(text, length, skipBlanks(text, length, at));
            }
            advance();
        }

        int count() {
            return count;
        }

        int kindNow() {
            return kindNow;
        }

        int kindNext() {
            return now + 1 < count ? kinds[now + 1] : END;
        }

        int placeNow() {
            return placeNow;
        }

        long valueNow() {
            return valueNow;
        }

        /** The last token, the end or what is none, is never gone beyond. */
        void advance() {
            now = Math.min(now + 1, count - 1);
            if (now >= 0 && now < count) {
                kindNow = kinds[now];
                placeNow = places[now];
                valueNow = values[now];
            }
        }

        private static int skipBlanks(byte[] text, int length, int from) {
            boolean remark = false;
            int at = from;
            for (; at < length; at++) {
                int c = text[at];
                if (c == '\n') {
                    remark = false;
                } else if (c == '#') {
                    remark = true;
                } else if (c != ' ' && !remark) {
                    break;
                }
            }
            return at;
        }

        /** Where the next token may begin, or NONE behind the last one and behind what is none. */
        private int scanOne(byte[] text, int length, int at) {
            if (at >= length) {
                put(END, length, 0);
                return NONE;
            }
            int c = text[at];
            if (c >= 'a' && c <= 'z') {
                return scanWord(text, length, at);
            }
            if (c >= '0' && c <= '9') {
                return scanNumber(text, length, at);
            }
            if (c < 0 || SIGNS.indexOf((char) c) < 0) {
                put(BAD, at, 0);
                return NONE;
            }
            if (BEFORE_EQUAL.indexOf((char) c) >= 0 && at + 1 < length && text[at + 1] == '=') {
                put(c + WITH_EQUAL, at, 0);
                return at + 2;
            }
            put(c, at, 0);
            return at + 1;
        }

        private int scanWord(byte[] text, int length, int from) {
            long letters = 0;
            int at = from;
            for (; at < length && text[at] >= 'a' && text[at] <= 'z'; at++) {
                letters = letters * 32 + text[at] - 96;
            }
            if (at - from > MOST_LETTERS) {
                put(BAD, from, 0);
                return NONE;
            }
            int word = Word.numberOf(letters);
            if (word == NONE) {
                put(NAME, from, letters);
            } else {
                put(WORD, from, word);
            }
            return at;
        }

        private int scanNumber(byte[] text, int length, int from) {
            long number = 0;
            int at = from;
            for (; at < length && text[at] >= '0' && text[at] <= '9'; at++) {
                number = number * 10 + text[at] - '0';
            }
            if (at - from > MOST_DIGITS || number > Integer.MAX_VALUE) {
                put(BAD, from, 0);
                return NONE;
            }
            put(NUMBER, from, number);
            return at;
        }

        private void put(int kind, int place, long value) {
            if (count == kinds.length) {
                kinds = Arrays.copyOf(kinds, 2 * count);
                places = Arrays.copyOf(places, 2 * count);
                values = Arrays.copyOf(values, 2 * count);
            }
            kinds[count] = kind;
            places[count] = place;
            values[count] = value;
            count++;
        }
    }

    /** What a text means: acts for the machine's stack, and where its functions' acts begin. */
    private static final class Program {
        static final int PARAMETERS = 0;
        static final int VARIABLES = 1;
        static final int NAME_PLACE = 2;
        static final int MOST_FUNCTIONS = 12;

        // Acts that move things and go elsewhere.
        static final int NUMBER = 0;
        static final int LOAD = 1;
        static final int STORE = 2;
        static final int DROP = 3;
        static final int JUMP = 4;
        static final int JUMP_ZERO = 5;
        static final int FOR_BEGIN = 6;
        static final int SAY = 7;
        static final int RETURN = 8;
        static final int RAISE = 9;
        static final int TRY = 10;
        static final int TRY_END = 11;
        static final int ON = 12;
        // Acts that make new things of old ones.
        static final int EACH_NEXT = 13;
        static final int EACH_GOT = 14;
        static final int FOLD_NEXT = 15;
        static final int FOLD_GOT = 16;
        static final int PUT_PART = 17;
        static final int PUT_CELL = 18;
        // Such acts, with a step ahead of them.
        static final int SIGN = 19;
        static final int LITERAL = 20;
        static final int INDEX = 21;
        static final int BUILT_IN_ONE = 22;
        static final int BUILT_IN_TWO = 23;
        static final int BOX = 24;
        static final int WALK = 25;
        // Acts that go elsewhere, with a step ahead of them; STEP is nothing but one.
        static final int STEP = 26;
        static final int FOR_NEXT = 27;
        static final int CALL = 28;

        static final int FIRST_MAKING = EACH_NEXT;
        static final int FIRST_STEPPING = SIGN;
        static final int FIRST_BEHIND_MAKING = STEP;

        private int[] acts = new int[32];
        private int[] arguments = new int[32];
        private int[] places = new int[32];
        private int length;
        private int functions;
        private final long[] names = new long[MOST_FUNCTIONS];
        private final int[] entries = new int[MOST_FUNCTIONS];
        private final int[] parameters = new int[MOST_FUNCTIONS];
        private final int[] variables = new int[MOST_FUNCTIONS];
        private final int[] namePlaces = new int[MOST_FUNCTIONS];

        void empty() {
            length = 0;
            functions = 0;
        }

        int functions() {
            return functions;
        }

        int length() {
            return length;
        }

        int told(int f, int what) {
            if (f < 0 || f >= functions) {
                return NONE;
            }
            switch (what) {
                case PARAMETERS:
                    return parameters[f];
                case VARIABLES:
                    return variables[f];
                case NAME_PLACE:
                    return namePlaces[f];
                default:
                    return NONE;
            }
        }

        int entryOf(int f) {
            return f >= 0 && f < functions ? entries[f] : length;
        }

        int numberOf(long name) {
            for (int f = 0; f < functions; f++) {
                if (names[f] == name) {
                    return f;
                }
            }
            return NONE;
        }

        void beginFunction(long name, int place) {
            if (functions < MOST_FUNCTIONS) {
                names[functions] = name;
                entries[functions] = length;
                namePlaces[functions] = place;
                functions++;
            }
        }

        void countParameters(int count) {
            if (functions > 0) {
                parameters[functions - 1] = count;
            }
        }

        void countVariables(int count) {
            if (functions > 0) {
                variables[functions - 1] = count;
            }
        }

        /** Where the act stands. */
        int emit(int act, int argument, int place) {
            if (length == acts.length) {
                acts = Arrays.copyOf(acts, 2 * length);
                arguments = Arrays.copyOf(arguments, 2 * length);
                places = Arrays.copyOf(places, 2 * length);
            }
            acts[length] = act;
            arguments[length] = argument;
            places[length] = place;
            length++;
            return length - 1;
        }

        void amend(int at, int argument) {
            if (at >= 0 && at < length) {
                arguments[at] = argument;
            }
        }

        int actAt(int at) {
            return at >= 0 && at < length ? acts[at] : RETURN;
        }

        int argumentAt(int at) {
            return at >= 0 && at < length ? arguments[at] : 0;
        }

        int placeAt(int at) {
            return at >= 0 && at < length ? places[at] : 0;
        }
    }

    /** Takes a text apart, and writes what it means into a program; or tells its first fault. */
    private static final class Parser {
        static final int NO_TOKEN = 1;

        private static final int CANNOT_COME = 2;
        private static final int TOO_MANY = 3;
        private static final int TOLD_AGAIN = 4;
        private static final int OTHER_COUNT = 5;
        private static final int NO_SUCH_CALL = 6;
        private static final int MOST_OPEN = 10;
        private static final int MOST_PARAMETERS = 4;
        private static final int MOST_VARIABLES = 14;
        private static final int ANY_COUNT = 2000;
        private static final int COMPARING = 1;
        private static final int UNARY = 4;

        private final Tokens tokens = new Tokens();
        private Program program;
        private int open;
        private final long[] variables = new long[MOST_VARIABLES];
        private int variableCount;
        // The calls, whose functions may stand behind them: the act, its name, place and E's.
        private int[] callActs = new int[8];
        private long[] callNames = new long[8];
        private int[] callPlaces = new int[8];
        private int[] callCounts = new int[8];
        private int calls;
        private int failKind;
        private int failPlace;

        int failKind() {
            return failKind;
        }

        int failPlace() {
            return failPlace;
        }

        void compile(byte[] text, int n, Program into) {
            tokens.scan(text, n);
            program = into;
            program.empty();
            open = 0;
            calls = 0;
            failKind = 0;
            failPlace = NONE;
            try {
                for (int i = 0; i < tokens.count() && tokens.kindNow() != Tokens.END; i++) {
                    oneFunction();
                }
            } catch (IllegalStateException fault) {
                return;
            }
            bindCalls();
        }

        private void oneFunction() {
            passWord(Word.FN);
            functionName();
            pass('(');
            variableCount = 0;
            if (tokens.kindNow() != ')') {
                parameter();
                for (int i = 0; i < tokens.count() && tokens.kindNow() == ','; i++) {
                    tokens.advance();
                    parameter();
                }
            }
            pass(')');
            program.countParameters(variableCount);
            block();
            program.countVariables(variableCount);
            program.emit(Program.NUMBER, 0, 0);
            program.emit(Program.RETURN, 0, 0);
        }

        private void functionName() {
            failUnless(tokens.kindNow() == Tokens.NAME, CANNOT_COME);
            long name = tokens.valueNow();
            failUnless(program.functions() < Program.MOST_FUNCTIONS, TOO_MANY);
            failUnless(!namesShelf(name) && program.numberOf(name) == NONE, TOLD_AGAIN);
            program.beginFunction(name, tokens.placeNow());
            tokens.advance();
        }

        private void parameter() {
            failUnless(tokens.kindNow() == Tokens.NAME, CANNOT_COME);
            long name = tokens.valueNow();
            failUnless(variableCount < MOST_PARAMETERS, TOO_MANY);
            failUnless(!namesShelf(name) && variableNumber(name) == NONE, TOLD_AGAIN);
            variables[variableCount] = name;
            variableCount++;
            tokens.advance();
        }

        private void block() {
            pass('{');
            for (int i = 0; i < tokens.count() && tokens.kindNow() != '}'; i++) {
                statement();
            }
            pass('}');
        }

        private void statement() {
            int place = tokens.placeNow();
            int kind = tokens.kindNow();
            failUnless(kind == Tokens.NAME || kind == Tokens.WORD, CANNOT_COME);
            program.emit(Program.STEP, 0, place);
            if (kind == Tokens.NAME && tokens.kindNext() == '(') {
                call();
                endCallStatement();
                return;
            }
            if (kind == Tokens.NAME) {
                assignment();
                return;
            }
            Word word = wordNow();
            switch (word) {
                case IF:
                    ifStatement(place);
                    break;
                case WHILE:
                    whileStatement(place);
                    break;
                case FOR:
                    forStatement(place);
                    break;
                case SAY:
                    plainStatement(Program.SAY, place);
                    break;
                case RETURN:
                    plainStatement(Program.RETURN, place);
                    break;
                case RAISE:
                    plainStatement(Program.RAISE, place);
                    break;
                case TRY:
                    tryStatement();
                    break;
                default:
                    builtIn(word);
                    endCallStatement();
            }
        }

        private void endCallStatement() {
            pass(';');
            program.emit(Program.DROP, 0, 0);
        }

        private void plainStatement(int act, int place) {
            tokens.advance();
            expression(0);
            pass(';');
            program.emit(act, 0, place);
        }

        private void assignment() {
            int place = tokens.placeNow();
            int variable = passVariable();
            int indices = 0;
            int first = tokens.placeNow();
            int second = first;
            for (; indices < 2 && tokens.kindNow() == '['; indices++) {
                second = tokens.placeNow();
                pass('[');
                expression(0);
                pass(']');
            }
            pass('=');
            expression(0);
            pass(';');
            if (indices > 0) {
                program.emit(Program.LOAD, variable, place);
                program.emit(indices == 1 ? Program.PUT_PART : Program.PUT_CELL, second, first);
            }
            program.emit(Program.STORE, variable, place);
        }

        private void ifStatement(int place) {
            tokens.advance();
            int away = condition(place);
            block();
            if (tokens.kindNow() != Tokens.WORD || wordNow() != Word.ELSE) {
                program.amend(away, program.length());
                return;
            }
            tokens.advance();
            int end = program.emit(Program.JUMP, 0, place);
            program.amend(away, program.length());
            block();
            program.amend(end, program.length());
        }

        private void whileStatement(int place) {
            tokens.advance();
            int round = program.emit(Program.STEP, 0, place);
            int away = condition(place);
            block();
            program.emit(Program.JUMP, round, place);
            program.amend(away, program.length());
        }

        /** The jump that is taken where the E is 0, which still has to be told where to. */
        private int condition(int place) {
            pass('(');
            expression(0);
            pass(')');
            return program.emit(Program.JUMP_ZERO, 0, place);
        }

        private void forStatement(int place) {
            tokens.advance();
            int variable = passVariable();
            passWord(Word.IN);
            expression(0);
            program.emit(Program.FOR_BEGIN, 0, place);
            int round = program.emit(Program.FOR_NEXT, 0, place);
            program.emit(Program.STORE, variable, place);
            block();
            program.emit(Program.JUMP, round, place);
            program.amend(round, program.length());
        }

        private void tryStatement() {
            tokens.advance();
            int begin = program.emit(Program.TRY, 0, 0);
            block();
            int end = program.emit(Program.TRY_END, 0, 0);
            program.amend(begin, program.length());
            int place = tokens.placeNow();
            passWord(Word.ON);
            int variable = passVariable();
            program.emit(Program.ON, 0, place);
            program.emit(Program.STORE, variable, place);
            block();
            program.amend(end, program.length());
        }

        /** Signs of a level bind looser than those of the levels above it. */
        private void expression(int level) {
            if (level >= UNARY) {
                unary();
                return;
            }
            expression(level + 1);
            int most = level == COMPARING ? 1 : tokens.count();
            for (int i = 0; i < most && levelOf(tokens.kindNow()) == level; i++) {
                int sign = tokens.kindNow();
                int place = tokens.placeNow();
                tokens.advance();
                expression(level + 1);
                program.emit(Program.SIGN, sign, place);
            }
        }

        private static int levelOf(int sign) {
            switch (sign) {
                case '&':
                case '|':
                    return 0;
                case '=' + Tokens.WITH_EQUAL:
                case '!' + Tokens.WITH_EQUAL:
                case '<':
                case '<' + Tokens.WITH_EQUAL:
                case '>':
                case '>' + Tokens.WITH_EQUAL:
                    return COMPARING;
                case '+':
                case '-':
                    return 2;
                case '*':
                case '/':
                case '%':
                    return 3;
                default:
                    return NONE;
            }
        }

        /** What has one part is what two would give: -x is 0 - x, and !x is x == 0. */
        private void unary() {
            int sign = tokens.kindNow();
            int place = tokens.placeNow();
            if (sign == '-') {
                tokens.advance();
                program.emit(Program.NUMBER, 0, place);
                indexed();
                program.emit(Program.SIGN, '-', place);
            } else if (sign == '!') {
                tokens.advance();
                indexed();
                program.emit(Program.NUMBER, 0, place);
                program.emit(Program.SIGN, '=' + Tokens.WITH_EQUAL, place);
            } else {
                indexed();
            }
        }

        private void indexed() {
            atom();
            for (int i = 0; i < tokens.count() && tokens.kindNow() == '['; i++) {
                int place = tokens.placeNow();
                pass('[');
                expression(0);
                pass(']');
                program.emit(Program.INDEX, 0, place);
            }
        }

        private void atom() {
            int place = tokens.placeNow();
            switch (tokens.kindNow()) {
                case Tokens.NUMBER:
                    program.emit(Program.NUMBER, (int) tokens.valueNow(), place);
                    tokens.advance();
                    break;
                case Tokens.NAME:
                    if (tokens.kindNext() == '(') {
                        call();
                    } else {
                        program.emit(Program.LOAD, passVariable(), place);
                    }
                    break;
                case Tokens.WORD:
                    builtIn(wordNow());
                    break;
                case '(':
                    pass('(');
                    expression(0);
                    pass(')');
                    break;
                default:
                    int count = list('[', ']', 0, ANY_COUNT);
                    program.emit(Program.LITERAL, count, place);
            }
        }

        private void call() {
            long name = tokens.valueNow();
            int place = tokens.placeNow();
            tokens.advance();
            int count = list('(', ')', 0, ANY_COUNT);
            noteCall(program.emit(Program.CALL, 0, place), name, place, count);
        }

        private void builtIn(Word word) {
            failUnless(word.isBuiltIn(), CANNOT_COME);
            int place = tokens.placeNow();
            int number = (int) tokens.valueNow();
            tokens.advance();
            if (word == Word.EACH || word == Word.FOLD) {
                walk(word == Word.EACH ? 1 : 2, place);
                return;
            }
            int count = list('(', ')', word.least, word.most);
            if (word == Word.BOX) {
                program.emit(Program.BOX, count, place);
            } else {
                program.emit(count == 1 ? Program.BUILT_IN_ONE : Program.BUILT_IN_TWO, number, place);
            }
        }

        /** each and fold: as many E come behind the name as the function has parameters. */
        private void walk(int count, int place) {
            pass('(');
            failUnless(tokens.kindNow() == Tokens.NAME, CANNOT_COME);
            long name = tokens.valueNow();
            int namePlace = tokens.placeNow();
            tokens.advance();
            for (int i = 0; i < count; i++) {
                pass(',');
                expression(0);
            }
            pass(')');
            program.emit(Program.WALK, 0, place);
            int next = program.emit(count == 1 ? Program.EACH_NEXT : Program.FOLD_NEXT, 0, place);
            noteCall(next, name, namePlace, count);
            program.emit(count == 1 ? Program.EACH_GOT : Program.FOLD_GOT, next, place);
        }

        /** How many E stand between two brackets, with commas between them. */
        private int list(int first, int last, int least, int most) {
            pass(first);
            int count = 0;
            if (tokens.kindNow() != last) {
                expression(0);
                count = 1;
                for (int i = 0; i < tokens.count() && tokens.kindNow() == ','; i++) {
                    failUnless(count < most, OTHER_COUNT);
                    tokens.advance();
                    expression(0);
                    count++;
                }
            }
            failUnless(tokens.kindNow() != last || count >= least, OTHER_COUNT);
            pass(last);
            return count;
        }

        /** A variable's number; a shelf's, from NONE downwards, as shelves are no variables. */
        private int passVariable() {
            failUnless(tokens.kindNow() == Tokens.NAME, CANNOT_COME);
            long name = tokens.valueNow();
            int variable = namesShelf(name) ? (int) -name : variableNumber(name);
            if (variable == NONE && !namesShelf(name)) {
                failUnless(variableCount < MOST_VARIABLES, TOO_MANY);
                variables[variableCount] = name;
                variable = variableCount;
                variableCount++;
            }
            tokens.advance();
            return variable;
        }

        private int variableNumber(long name) {
            for (int i = 0; i < variableCount; i++) {
                if (variables[i] == name) {
                    return i;
                }
            }
            return NONE;
        }

        private static boolean namesShelf(long name) {
            return name >= 1 && name <= SHELF_COUNT;
        }

        private void noteCall(int act, long name, int place, int count) {
            if (calls == callActs.length) {
                callActs = Arrays.copyOf(callActs, 2 * calls);
                callNames = Arrays.copyOf(callNames, 2 * calls);
                callPlaces = Arrays.copyOf(callPlaces, 2 * calls);
                callCounts = Arrays.copyOf(callCounts, 2 * calls);
            }
            callActs[calls] = act;
            callNames[calls] = name;
            callPlaces[calls] = place;
            callCounts[calls] = count;
            calls++;
        }

        /** An inner call is noted ahead of the outer one, so the first is sought by its place. */
        private void bindCalls() {
            for (int i = 0; i < calls; i++) {
                int f = program.numberOf(callNames[i]);
                program.amend(callActs[i], f);
                boolean fits = program.told(f, Program.PARAMETERS) == callCounts[i];
                if (!fits && (failKind == 0 || callPlaces[i] < failPlace)) {
                    failKind = NO_SUCH_CALL;
                    failPlace = callPlaces[i];
                }
            }
        }

        private Word wordNow() {
            return Word.numbered(tokens.valueNow());
        }

        private void passWord(Word word) {
            failUnless(tokens.kindNow() == Tokens.WORD && wordNow() == word, CANNOT_COME);
            tokens.advance();
        }

        private void pass(int sign) {
            failUnless(tokens.kindNow() == sign, CANNOT_COME);
            if (sign == '(' || sign == '[' || sign == '{') {
                failUnless(open < MOST_OPEN, TOO_MANY);
                open++;
            } else if (sign == ')' || sign == ']' || sign == '}') {
                open--;
            }
            tokens.advance();
        }

        /** Nothing takes a token that is none, so every text that has one fails there or ahead. */
        private void failUnless(boolean fine, int kind) {
            if (!fine) {
                failKind = tokens.kindNow() == Tokens.BAD ? NO_TOKEN : kind;
                failPlace = tokens.placeNow();
                throw new IllegalStateException("a fault");
            }
        }
    }

    /** What the eight shelves have, each as the numbers that sum() goes over; none if it is bare. */
    private static final class Shelves {
        private final int[][] numbers = new int[SHELF_COUNT][4];
        private final int[] lengths = new int[SHELF_COUNT];
        private int reading;

        int kindOn(int shelf) {
            return lengths[shelf] == 0 ? BARE : numbers[shelf][0];
        }

        void bare(int shelf) {
            lengths[shelf] = 0;
        }

        void layInt(int shelf, int v) {
            lengths[shelf] = 0;
            put(shelf, INT);
            put(shelf, v);
        }

        boolean append(int shelf, int v) {
            if (kindOn(shelf) != ROW) {
                lengths[shelf] = 0;
                put(shelf, ROW);
                put(shelf, 0);
            }
            if (numbers[shelf][1] >= MOST_INTS) {
                return false;
            }
            numbers[shelf][1]++;
            put(shelf, v);
            return true;
        }

        boolean alike(int a, int b) {
            boolean like = lengths[a] == lengths[b];
            for (int i = 0; i < lengths[a] && like; i++) {
                like = numbers[a][i] == numbers[b][i];
            }
            return like;
        }

        long sumOn(int shelf, long before) {
            if (lengths[shelf] == 0) {
                return before * 1000003 ^ NONE;
            }
            long sum = before;
            for (int i = 0; i < lengths[shelf]; i++) {
                sum = sum * 1000003 ^ numbers[shelf][i];
            }
            return sum;
        }

        void copy(Shelves from) {
            for (int s = 0; s < SHELF_COUNT; s++) {
                if (numbers[s].length < from.lengths[s]) {
                    numbers[s] = new int[from.lengths[s]];
                }
                System.arraycopy(from.numbers[s], 0, numbers[s], 0, from.lengths[s]);
                lengths[s] = from.lengths[s];
            }
        }

        long read(int shelf, Heap heap) {
            if (lengths[shelf] == 0) {
                return thing(BARE, 0);
            }
            reading = 0;
            return readThing(shelf, heap, 0);
        }

        void write(int shelf, Heap heap, long thing) {
            lengths[shelf] = 0;
            if (kindOf(thing) != BARE) {
                writeThing(shelf, heap, thing, 0);
            }
        }

        private long readThing(int shelf, Heap heap, int depth) {
            int kind = next(shelf);
            if (kind == INT || depth > MOST_DEPTH) {
                return thing(INT, next(shelf));
            }
            if (kind == ROW) {
                return readRow(shelf, heap);
            }
            int from = heap.gathered();
            int size = next(shelf);
            for (int i = 0; i < size; i++) {
                heap.put(kind == TABLE ? readRow(shelf, heap) : readThing(shelf, heap, depth + 1));
            }
            return heap.build(kind, from);
        }

        private long readRow(int shelf, Heap heap) {
            int from = heap.gathered();
            int size = next(shelf);
            for (int i = 0; i < size; i++) {
                heap.put(thing(INT, next(shelf)));
            }
            return heap.build(ROW, from);
        }

        private int next(int shelf) {
            if (reading >= lengths[shelf]) {
                return 0;
            }
            reading++;
            return numbers[shelf][reading - 1];
        }

        private void writeThing(int shelf, Heap heap, long thing, int depth) {
            int kind = kindOf(thing);
            put(shelf, kind);
            if (kind == INT || depth > MOST_DEPTH) {
                put(shelf, lowOf(thing));
                return;
            }
            if (kind == ROW) {
                writeRow(shelf, heap, thing);
                return;
            }
            int size = heap.sizeOf(thing);
            put(shelf, size);
            for (int i = 0; i < size; i++) {
                if (kind == TABLE) {
                    writeRow(shelf, heap, heap.part(thing, i));
                } else {
                    writeThing(shelf, heap, heap.part(thing, i), depth + 1);
                }
            }
        }

        private void writeRow(int shelf, Heap heap, long row) {
            int size = heap.sizeOf(row);
            put(shelf, size);
            for (int i = 0; i < size; i++) {
                put(shelf, heap.intAt(row, i));
            }
        }

        private void put(int shelf, int number) {
            int length = lengths[shelf];
            if (length >= numbers[shelf].length) {
                numbers[shelf] = Arrays.copyOf(numbers[shelf], 2 * length + 4);
            }
            numbers[shelf][length] = number;
            lengths[shelf] = length + 1;
        }
    }

    /**
     * The things of one run. A ROW stands as its SIZE and INTS; a TABLE as its SIZE, how many INTS
     * it has, and where its ROWS stand; a PACK as its SIZE, BULK, DEPTH and THINGS. As things never
     * change, they share what they have in common.
     */
    private static final class Heap {
        private long[] cells = new long[128];
        private int used;
        // Parts of what is being built; while a TABLE is, its ROWS are built above its own parts.
        private long[] parts = new long[32];
        private int gathered;

        void empty() {
            used = 0;
            gathered = 0;
        }

        /** What a built-in that ended in a trouble had gathered is of no use any more. */
        void forget() {
            gathered = 0;
        }

        int gathered() {
            return gathered;
        }

        void put(long part) {
            if (gathered == parts.length) {
                parts = Arrays.copyOf(parts, 2 * gathered);
            }
            parts[gathered] = part;
            gathered++;
        }

        void putAll(long thing, int from, int to) {
            for (int i = from; i < to; i++) {
                put(part(thing, i));
            }
        }

        /** All parts of a thing of that kind; another thing is a part itself. */
        void putInto(int kind, long thing) {
            if (kindOf(thing) != kind) {
                put(thing);
                return;
            }
            int size = sizeOf(thing);
            for (int i = 0; i < size; i++) {
                put(part(thing, i));
            }
        }

        /** A thing of what was put since there were so many; or the refusal of one too great. */
        long build(int kind, int from) {
            int size = gathered - from;
            if (from < 0 || size < 0) {
                return refusal(TOO_GREAT);
            }
            gathered = from;
            int total = 0;
            int depth = 0;
            for (int i = from; kind > ROW && i < from + size; i++) {
                total += kind == PACK ? bulkOf(parts[i]) : sizeOf(parts[i]);
                depth = Math.max(depth, depthOf(parts[i]));
            }
            if (size > (kind == ROW ? MOST_INTS : MOST_PARTS)
                    || kind == TABLE && total > MOST_IN_TABLE
                    || kind == PACK && (total + 1 > MOST_BULK || depth + 1 > MOST_DEPTH)) {
                return refusal(TOO_GREAT);
            }
            int address = used;
            used += kind + size;
            if (used > cells.length) {
                cells = Arrays.copyOf(cells, 2 * used);
            }
            cells[address] = size;
            if (kind == TABLE) {
                cells[address + 1] = total;
            } else if (kind == PACK) {
                cells[address + 1] = total + 1;
                cells[address + 2] = depth + 1;
            }
            for (int i = 0; i < size; i++) {
                cells[address + kind + i] = kind == PACK ? parts[from + i] : (int) parts[from + i];
            }
            return thing(kind, address);
        }

        /** As a LITERAL is built: of INTS a ROW, of ROWS a TABLE; of none what is told. */
        long buildAlike(int kindOfNone, int from) {
            int kind = gathered > from ? kindOf(parts[from]) + 1 : kindOfNone;
            boolean fits = kind == ROW || kind == TABLE;
            for (int i = from; i < gathered && fits; i++) {
                fits = kindOf(parts[i]) + 1 == kind;
            }
            return fits ? build(kind, from) : refusal(WRONG_KIND);
        }

        int sizeOf(long thing) {
            int kind = (int) (thing >> 32);
            int at = (int) thing;
            return kind < ROW || kind > PACK || at < 0 || at >= used ? 0 : (int) cells[at];
        }

        /** The part at a PLACE that the caller knows to be one. */
        long part(long thing, int i) {
            int kind = (int) (thing >> 32);
            int at = (int) thing + kind + i;
            if (kind < ROW || kind > PACK || at < 0 || at >= used) {
                return 0;
            }
            return kind == PACK ? cells[at] : thing(kind - 1, (int) cells[at]);
        }

        /** INT i of a ROW; an INT stands for a ROW of as many as are asked for. */
        int intAt(long thing, int i) {
            if (thing >> 32 == INT) {
                return (int) thing;
            }
            int at = (int) thing + ROW + i;
            return at >= 0 && at < used ? (int) cells[at] : 0;
        }

        int madeOf(long thing) {
            switch (kindOf(thing)) {
                case ROW:
                    return 4 + sizeOf(thing);
                case TABLE:
                    return 4 + 4 * sizeOf(thing) + intsOf(thing);
                case PACK:
                    return 4 + 2 * sizeOf(thing);
                default:
                    return 0;
            }
        }

        boolean alike(long x, long y) {
            return alikeWithin(x, y, 0);
        }

        private boolean alikeWithin(long x, long y, int depth) {
            int size = sizeOf(x);
            if (kindOf(x) != kindOf(y) || size != sizeOf(y)) {
                return false;
            }
            if (kindOf(x) == INT || depth > MOST_DEPTH + 2) {
                return x == y;
            }
            boolean like = true;
            for (int i = 0; i < size && like; i++) {
                like = alikeWithin(part(x, i), part(y, i), depth + 1);
            }
            return like;
        }

        private int bulkOf(long thing) {
            int kind = (int) (thing >> 32);
            int at = (int) thing;
            if (kind < ROW || kind > PACK || at < 0 || at >= used) {
                return 1;
            }
            // A ROW has no note behind its SIZE, and may be the last thing there is.
            int note = kind == ROW || at + 1 >= used ? 0 : (int) cells[at + 1];
            return kind == PACK ? note : 1 + (int) cells[at] + note;
        }

        private int depthOf(long thing) {
            int at = (int) thing + 2;
            return thing >> 32 == PACK && at >= 0 && at < used ? (int) cells[at] : 0;
        }

        /** How many INTS a TABLE has. */
        private int intsOf(long table) {
            int at = (int) table + 1;
            return at >= 0 && at < used ? (int) cells[at] : 0;
        }
    }

    /** The signs, and what P[..] and N[..] = do. Each gives a thing or a refusal. */
    private static final class Signs {
        private final Heap heap;
        private boolean byZero;

        Signs(Heap heap) {
            this.heap = heap;
        }

        long two(int sign, long x, long y) {
            if (kindOf(x) == PACK || kindOf(y) == PACK) {
                return refusal(WRONG_KIND);
            }
            if (unlike(x, y)) {
                return refusal(UNLIKE);
            }
            byZero = false;
            int kind = Math.max(kindOf(x), kindOf(y));
            long made = kind == INT ? thing(INT, work(sign, lowOf(x), lowOf(y)))
                    : kind == ROW ? rows(sign, x, y) : tables(sign, x, y);
            return byZero ? refusal(BY_ZERO) : made;
        }

        long index(long x, long at) {
            int size = heap.sizeOf(x);
            if (kindOf(x) == INT || kindOf(at) > ROW) {
                return refusal(WRONG_KIND);
            }
            if (kindOf(at) == INT) {
                int i = lowOf(at);
                return i < 0 || i >= size ? refusal(NO_PLACE) : heap.part(x, i);
            }
            int from = heap.gathered();
            int count = heap.sizeOf(at);
            for (int k = 0; k < count; k++) {
                int i = heap.intAt(at, k);
                if (i < 0 || i >= size) {
                    return refusal(NO_PLACE);
                }
                heap.put(heap.part(x, i));
            }
            return heap.build(kindOf(x), from);
        }

        /** The thing with another part at a place. */
        long putPart(long thing, long at, long part) {
            int kind = kindOf(thing);
            boolean fits = kind == PACK || kind != INT && kindOf(part) == kind - 1;
            if (!fits || kindOf(at) != INT) {
                return refusal(WRONG_KIND);
            }
            int i = lowOf(at);
            int size = heap.sizeOf(thing);
            if (i < 0 || i >= size) {
                return refusal(NO_PLACE);
            }
            int from = heap.gathered();
            heap.putAll(thing, 0, i);
            heap.put(part);
            heap.putAll(thing, i + 1, size);
            return heap.build(kind, from);
        }

        /** Why a TABLE can't have an INT put at a ROW's place, but for the place in that ROW; 0 if it can. */
        int cellTrouble(long table, long i, long j, long part) {
            if (kindOf(table) != TABLE || kindOf(i) != INT || kindOf(j) != INT || kindOf(part) != INT) {
                return WRONG_KIND;
            }
            return lowOf(i) < 0 || lowOf(i) >= heap.sizeOf(table) ? NO_PLACE : 0;
        }

        private boolean unlike(long x, long y) {
            int kx = kindOf(x);
            int ky = kindOf(y);
            if (kx == INT || ky == INT) {
                return false;
            }
            if (kx == ky && heap.sizeOf(x) != heap.sizeOf(y)) {
                return true;
            }
            int rows = kx == TABLE ? heap.sizeOf(x) : ky == TABLE ? heap.sizeOf(y) : 0;
            boolean found = false;
            for (int i = 0; i < rows && !found; i++) {
                found = heap.sizeOf(rowAt(x, i)) != heap.sizeOf(rowAt(y, i));
            }
            return found;
        }

        private long tables(int sign, long x, long y) {
            int size = heap.sizeOf(kindOf(x) == TABLE ? x : y);
            int from = heap.gathered();
            for (int i = 0; i < size; i++) {
                heap.put(rows(sign, rowAt(x, i), rowAt(y, i)));
            }
            return heap.build(TABLE, from);
        }

        private long rows(int sign, long x, long y) {
            int size = heap.sizeOf(kindOf(x) == ROW ? x : y);
            int from = heap.gathered();
            for (int i = 0; i < size; i++) {
                heap.put(thing(INT, work(sign, heap.intAt(x, i), heap.intAt(y, i))));
            }
            return heap.build(ROW, from);
        }

        /** A ROW or an INT meets every ROW of a TABLE. */
        private long rowAt(long thing, int i) {
            return kindOf(thing) == TABLE ? heap.part(thing, i) : thing;
        }

        private int work(int sign, int x, int y) {
            switch (sign) {
                case '+':
                    return x + y;
                case '-':
                    return x - y;
                case '*':
                    return x * y;
                case '/':
                case '%':
                    return divide(sign, x, y);
                case '&':
                    return x & y;
                case '|':
                    return x | y;
                default:
                    return compares(sign, x, y) ? 1 : 0;
            }
        }

        private int divide(int sign, int x, int y) {
            if (y == 0) {
                byZero = true;
                return 0;
            }
            return sign == '/' ? x / y : x % y;
        }

        private static boolean compares(int sign, int x, int y) {
            switch (sign) {
                case '<':
                    return x < y;
                case '<' + Tokens.WITH_EQUAL:
                    return x <= y;
                case '>':
                    return x > y;
                case '>' + Tokens.WITH_EQUAL:
                    return x >= y;
                case '!' + Tokens.WITH_EQUAL:
                    return x != y;
                default:
                    return x == y;
            }
        }
    }

    /** The built-ins but each and fold, which call functions. Each gives a thing or a refusal. */
    private static final class BuiltIns {
        private final Heap heap;
        private final int[] order = new int[MOST_INTS];

        BuiltIns(Heap heap) {
            this.heap = heap;
        }

        long one(Word word, long x) {
            switch (word) {
                case NEW_ROW:
                    return count(x, 0, ROW, MOST_INTS);
                case IOTA:
                    return count(x, 1, ROW, MOST_INTS);
                case NEW_PACK:
                    return count(x, 0, PACK, MOST_PARTS);
                case ROWS:
                    return rows(x);
                case SIZE:
                    return kindOf(x) == INT ? refusal(WRONG_KIND) : thing(INT, heap.sizeOf(x));
                case WIDTHS:
                    return widths(x);
                case KIND:
                    return thing(INT, kindOf(x));
                case SUM:
                case MAX:
                case MIN:
                    return digest(word, x);
                case SCAN:
                case SORT:
                    return change(word, x);
                case GRADE:
                    return grade(x);
                case BACK:
                    return turnedBack(x);
                case FLAT:
                    return flat(x);
                case TURN:
                    return turn(x);
                case GROUP:
                    return group(x);
                default:
                    return refusal(WRONG_KIND);
            }
        }

        long two(Word word, long x, long y) {
            switch (word) {
                case GRID:
                    return grid(x, y);
                case JOIN:
                    return join(x, y);
                case TAKE:
                    return take(x, y);
                case DROP:
                    return drop(x, y);
                case CUT:
                    return cut(x, y);
                case PICK:
                    return pick(x, y);
                case FIND:
                    return find(x, y);
                case PAD:
                    return pad(x, y);
                case OUTER:
                    return outer(x, y);
                case SAME:
                    return thing(INT, heap.alike(x, y) ? 1 : 0);
                default:
                    return refusal(WRONG_KIND);
            }
        }

        private long count(long x, int step, int kind, int most) {
            if (kindOf(x) != INT) {
                return refusal(WRONG_KIND);
            }
            int n = lowOf(x);
            if (n > most) {
                return refusal(TOO_GREAT);
            }
            if (n < 0) {
                return refusal(NO_SIZE);
            }
            int from = heap.gathered();
            for (int i = 0; i < n; i++) {
                heap.put(thing(INT, i * step));
            }
            return heap.build(kind, from);
        }

        private long zeros(int n) {
            int from = heap.gathered();
            for (int i = 0; i < n; i++) {
                heap.put(thing(INT, 0));
            }
            return heap.build(ROW, from);
        }

        private long grid(long x, long y) {
            if (kindOf(x) != INT || kindOf(y) != INT) {
                return refusal(WRONG_KIND);
            }
            int n = lowOf(x);
            int m = lowOf(y);
            if (n > MOST_PARTS || m > MOST_INTS || n > 0 && m > 0 && n * m > MOST_IN_TABLE) {
                return refusal(TOO_GREAT);
            }
            if (n < 0 || m < 0) {
                return refusal(NO_SIZE);
            }
            int from = heap.gathered();
            for (int i = 0; i < n; i++) {
                heap.put(zeros(m));
            }
            return heap.build(TABLE, from);
        }

        private long rows(long x) {
            if (kindOf(x) != ROW) {
                return refusal(WRONG_KIND);
            }
            int size = heap.sizeOf(x);
            int greatest = 0;
            int least = 0;
            long sum = 0;
            for (int i = 0; i < size; i++) {
                int n = heap.intAt(x, i);
                greatest = Math.max(greatest, n);
                least = Math.min(least, n);
                sum += Math.max(n, 0);
            }
            if (size > MOST_PARTS || greatest > MOST_INTS || sum > MOST_IN_TABLE) {
                return refusal(TOO_GREAT);
            }
            if (least < 0) {
                return refusal(NO_SIZE);
            }
            int from = heap.gathered();
            for (int i = 0; i < size; i++) {
                heap.put(zeros(heap.intAt(x, i)));
            }
            return heap.build(TABLE, from);
        }

        private long widths(long x) {
            if (kindOf(x) != TABLE) {
                return refusal(WRONG_KIND);
            }
            int size = heap.sizeOf(x);
            int from = heap.gathered();
            for (int i = 0; i < size; i++) {
                heap.put(thing(INT, heap.sizeOf(heap.part(x, i))));
            }
            return heap.build(ROW, from);
        }

        /** sum, max, min: of a ROW an INT, of a TABLE the ROW of those. */
        private long digest(Word word, long x) {
            if (kindOf(x) == INT && word == Word.SUM) {
                return x;
            }
            if (kindOf(x) == ROW) {
                return digestRow(word, x);
            }
            if (kindOf(x) != TABLE) {
                return refusal(WRONG_KIND);
            }
            int size = heap.sizeOf(x);
            int from = heap.gathered();
            for (int i = 0; i < size; i++) {
                long one = digestRow(word, heap.part(x, i));
                if (kindOf(one) == REFUSAL) {
                    return one;
                }
                heap.put(one);
            }
            return heap.build(ROW, from);
        }

        private long digestRow(Word word, long row) {
            int size = heap.sizeOf(row);
            if (size == 0) {
                return word == Word.SUM ? thing(INT, 0) : refusal(NO_PLACE);
            }
            int digest = heap.intAt(row, 0);
            for (int i = 1; i < size; i++) {
                int next = heap.intAt(row, i);
                digest = word == Word.SUM ? digest + next
                        : word == Word.MAX ? Math.max(digest, next) : Math.min(digest, next);
            }
            return thing(INT, digest);
        }

        /** scan, sort: of a ROW a ROW, of a TABLE each. */
        private long change(Word word, long x) {
            if (kindOf(x) == ROW) {
                return changeRow(word, x);
            }
            if (kindOf(x) != TABLE) {
                return refusal(WRONG_KIND);
            }
            int size = heap.sizeOf(x);
            int from = heap.gathered();
            for (int i = 0; i < size; i++) {
                heap.put(changeRow(word, heap.part(x, i)));
            }
            return heap.build(TABLE, from);
        }

        private long changeRow(Word word, long row) {
            int size = heap.sizeOf(row);
            int from = heap.gathered();
            if (word == Word.SORT) {
                sortPlaces(row, size);
            }
            int sum = 0;
            for (int i = 0; i < size; i++) {
                sum += heap.intAt(row, i);
                heap.put(thing(INT, word == Word.SORT ? heap.intAt(row, placeInOrder(i)) : sum));
            }
            return heap.build(ROW, from);
        }

        private long grade(long x) {
            if (kindOf(x) != ROW) {
                return refusal(WRONG_KIND);
            }
            int size = heap.sizeOf(x);
            int from = heap.gathered();
            sortPlaces(x, size);
            for (int i = 0; i < size; i++) {
                heap.put(thing(INT, placeInOrder(i)));
            }
            return heap.build(ROW, from);
        }

        /** A place goes ahead of those of greater INTS alone, so like ones stay in order. */
        private void sortPlaces(long row, int size) {
            for (int i = 0; i < size && i < order.length; i++) {
                int n = heap.intAt(row, i);
                int k = i;
                for (; k > 0 && heap.intAt(row, order[k - 1]) > n; k--) {
                    order[k] = order[k - 1];
                }
                order[k] = i;
            }
        }

        private int placeInOrder(int i) {
            return i >= 0 && i < order.length ? order[i] : 0;
        }

        private long turnedBack(long x) {
            if (kindOf(x) == INT) {
                return refusal(WRONG_KIND);
            }
            int from = heap.gathered();
            for (int i = heap.sizeOf(x) - 1; i >= 0; i--) {
                heap.put(heap.part(x, i));
            }
            return heap.build(kindOf(x), from);
        }

        private long flat(long x) {
            if (kindOf(x) < TABLE) {
                return refusal(WRONG_KIND);
            }
            int size = heap.sizeOf(x);
            int from = heap.gathered();
            for (int i = 0; i < size; i++) {
                long part = heap.part(x, i);
                if (kindOf(part) > ROW) {
                    return refusal(WRONG_KIND);
                }
                heap.putInto(ROW, part);
            }
            return heap.build(ROW, from);
        }

        private long turn(long x) {
            if (kindOf(x) != TABLE) {
                return refusal(WRONG_KIND);
            }
            int size = heap.sizeOf(x);
            int widest = 0;
            for (int i = 0; i < size; i++) {
                widest = Math.max(widest, heap.sizeOf(heap.part(x, i)));
            }
            if (widest > MOST_PARTS) {
                return refusal(TOO_GREAT);
            }
            int from = heap.gathered();
            for (int j = 0; j < widest; j++) {
                heap.put(column(x, size, j));
            }
            return heap.build(TABLE, from);
        }

        private long column(long table, int size, int j) {
            int from = heap.gathered();
            for (int i = 0; i < size; i++) {
                long row = heap.part(table, i);
                if (j < heap.sizeOf(row)) {
                    heap.put(heap.part(row, j));
                }
            }
            return heap.build(ROW, from);
        }

        private long group(long x) {
            if (kindOf(x) != ROW) {
                return refusal(WRONG_KIND);
            }
            int size = heap.sizeOf(x);
            int greatest = NONE;
            int least = 0;
            for (int i = 0; i < size; i++) {
                greatest = Math.max(greatest, heap.intAt(x, i));
                least = Math.min(least, heap.intAt(x, i));
            }
            if (greatest >= MOST_PARTS) {
                return refusal(TOO_GREAT);
            }
            if (least < 0) {
                return refusal(NO_SIZE);
            }
            int from = heap.gathered();
            for (int n = 0; n <= greatest; n++) {
                heap.put(placesOf(x, size, n));
            }
            return heap.build(TABLE, from);
        }

        private long placesOf(long row, int size, int n) {
            int from = heap.gathered();
            for (int i = 0; i < size; i++) {
                if (heap.intAt(row, i) == n) {
                    heap.put(thing(INT, i));
                }
            }
            return heap.build(ROW, from);
        }

        private long join(long x, long y) {
            int kind = Math.max(ROW, Math.max(kindOf(x), kindOf(y)));
            if (kind == TABLE && (kindOf(x) == INT || kindOf(y) == INT)) {
                return refusal(WRONG_KIND);
            }
            int from = heap.gathered();
            heap.putInto(kind, x);
            heap.putInto(kind, y);
            return heap.build(kind, from);
        }

        private long take(long x, long y) {
            int kind = kindOf(y);
            if (kindOf(x) != INT || kind == INT) {
                return refusal(WRONG_KIND);
            }
            long n = lowOf(x);
            long want = Math.abs(n);
            if (want > (kind == ROW ? MOST_INTS : MOST_PARTS)) {
                return refusal(TOO_GREAT);
            }
            int size = heap.sizeOf(y);
            int first = n < 0 ? (int) (size - want) : 0;
            int from = heap.gathered();
            long filling = kind == TABLE ? zeros(0) : thing(INT, 0);
            for (int i = first; i < first + want; i++) {
                heap.put(i >= 0 && i < size ? heap.part(y, i) : filling);
            }
            return heap.build(kind, from);
        }

        private long drop(long x, long y) {
            if (kindOf(x) != INT || kindOf(y) == INT) {
                return refusal(WRONG_KIND);
            }
            long n = lowOf(x);
            int size = heap.sizeOf(y);
            int from = heap.gathered();
            heap.putAll(y, (int) Math.min(size, Math.max(n, 0)), (int) Math.max(0, size + Math.min(n, 0)));
            return heap.build(kindOf(y), from);
        }

        private long cut(long x, long y) {
            if (kindOf(x) != ROW || kindOf(y) != ROW) {
                return refusal(WRONG_KIND);
            }
            int size = heap.sizeOf(y);
            int least = 0;
            long sum = 0;
            for (int i = 0; i < size; i++) {
                least = Math.min(least, heap.intAt(y, i));
                sum += heap.intAt(y, i);
            }
            if (size > MOST_PARTS) {
                return refusal(TOO_GREAT);
            }
            if (least < 0) {
                return refusal(NO_SIZE);
            }
            if (sum != heap.sizeOf(x)) {
                return refusal(UNLIKE);
            }
            int from = heap.gathered();
            int at = 0;
            for (int i = 0; i < size; i++) {
                heap.put(stretch(x, at, at + heap.intAt(y, i)));
                at += heap.intAt(y, i);
            }
            return heap.build(TABLE, from);
        }

        private long stretch(long row, int first, int behind) {
            int from = heap.gathered();
            for (int i = first; i < behind; i++) {
                heap.put(heap.part(row, i));
            }
            return heap.build(ROW, from);
        }

        private long pick(long x, long y) {
            if (kindOf(x) == INT || kindOf(y) != ROW) {
                return refusal(WRONG_KIND);
            }
            int size = heap.sizeOf(x);
            if (size != heap.sizeOf(y)) {
                return refusal(UNLIKE);
            }
            int from = heap.gathered();
            for (int i = 0; i < size; i++) {
                if (heap.intAt(y, i) != 0) {
                    heap.put(heap.part(x, i));
                }
            }
            return heap.build(kindOf(x), from);
        }

        private long find(long x, long y) {
            if (kindOf(x) != ROW || kindOf(y) > ROW) {
                return refusal(WRONG_KIND);
            }
            if (kindOf(y) == INT) {
                return thing(INT, firstPlace(x, lowOf(y)));
            }
            int size = heap.sizeOf(y);
            int from = heap.gathered();
            for (int i = 0; i < size; i++) {
                heap.put(thing(INT, firstPlace(x, heap.intAt(y, i))));
            }
            return heap.build(ROW, from);
        }

        private int firstPlace(long row, int n) {
            int size = heap.sizeOf(row);
            for (int i = 0; i < size; i++) {
                if (heap.intAt(row, i) == n) {
                    return i;
                }
            }
            return -1;
        }

        private long pad(long x, long y) {
            if (kindOf(x) != TABLE || kindOf(y) != INT) {
                return refusal(WRONG_KIND);
            }
            int n = lowOf(y);
            int size = heap.sizeOf(x);
            if (n > MOST_INTS || (long) size * n > MOST_IN_TABLE) {
                return refusal(TOO_GREAT);
            }
            if (n < 0) {
                return refusal(NO_SIZE);
            }
            int from = heap.gathered();
            for (int i = 0; i < size; i++) {
                heap.put(padRow(heap.part(x, i), n));
            }
            return heap.build(TABLE, from);
        }

        private long padRow(long row, int n) {
            int from = heap.gathered();
            int size = heap.sizeOf(row);
            for (int i = 0; i < n; i++) {
                heap.put(thing(INT, i < size ? heap.intAt(row, i) : 0));
            }
            return heap.build(ROW, from);
        }

        private long outer(long x, long y) {
            if (kindOf(x) != ROW || kindOf(y) != ROW) {
                return refusal(WRONG_KIND);
            }
            int size = heap.sizeOf(x);
            if (size > MOST_PARTS || size * heap.sizeOf(y) > MOST_IN_TABLE) {
                return refusal(TOO_GREAT);
            }
            int from = heap.gathered();
            for (int i = 0; i < size; i++) {
                heap.put(times(heap.intAt(x, i), y));
            }
            return heap.build(TABLE, from);
        }

        private long times(int n, long row) {
            int size = heap.sizeOf(row);
            int from = heap.gathered();
            for (int i = 0; i < size; i++) {
                heap.put(thing(INT, n * heap.intAt(row, i)));
            }
            return heap.build(ROW, from);
        }
    }

    /** What was said or shown: how many bytes, and the first ones of them. */
    private static final class Out {
        private static final int MOST_KEPT = 600;
        private static final int MOST_DIGITS = 10;

        private byte[] kept = new byte[64];
        private int total;
        private final byte[] digits = new byte[MOST_DIGITS];

        void empty() {
            total = 0;
        }

        int total() {
            return total;
        }

        int byteAt(int k) {
            return k >= 0 && k < total && k < kept.length ? kept[k] : NONE;
        }

        void tell(Heap heap, long thing) {
            form(heap, thing, 0);
        }

        private void form(Heap heap, long thing, int depth) {
            int kind = kindOf(thing);
            if (kind == INT || depth > MOST_DEPTH + 1) {
                number(lowOf(thing));
                return;
            }
            int size = heap.sizeOf(thing);
            put(kind == ROW ? '[' : kind == TABLE ? '{' : '(');
            for (int i = 0; i < size; i++) {
                if (i > 0 && kind != TABLE) {
                    put(kind == ROW ? ' ' : ';');
                }
                form(heap, heap.part(thing, i), depth + 1);
            }
            put(kind == ROW ? ']' : kind == TABLE ? '}' : ')');
        }

        void put(int c) {
            if (total < MOST_KEPT) {
                if (total >= kept.length) {
                    kept = Arrays.copyOf(kept, Math.min(2 * total, MOST_KEPT));
                }
                kept[total] = (byte) c;
            }
            total++;
        }

        private void number(int n) {
            if (n < 0) {
                put('-');
            }
            // The least INT has no opposite among INTS.
            long rest = Math.abs((long) n);
            int count = 0;
            do {
                digits[count] = (byte) ('0' + rest % 10);
                rest /= 10;
                count++;
            } while (rest > 0 && count < MOST_DIGITS);
            for (int i = count - 1; i >= 0; i--) {
                put(digits[i]);
            }
        }
    }

    /** What a run has done so far, and the trouble that it is in. */
    private static final class Tally {
        private static final int MOST_MADE = 3000;
        private static final int MADE_BY_TAKING = 300;

        private boolean begun;
        private int fuel;
        private int steps;
        private int made;
        private int mostCalls;
        private int taken;
        private int kind;
        private int place = NONE;
        private int raised;

        void begin(int fuelThere) {
            begun = true;
            fuel = fuelThere;
            steps = 0;
            made = 0;
            mostCalls = 0;
            taken = 0;
            settle();
        }

        int troubleKind() {
            return kind;
        }

        int told(int what) {
            if (!begun) {
                return NONE;
            }
            switch (what) {
                case 0:
                    return kind;
                case 1:
                    return place;
                case 2:
                    return raised;
                case 3:
                    return steps;
                case 4:
                    return made;
                case 5:
                    return mostCalls;
                case 6:
                    return taken;
                default:
                    return NONE;
            }
        }

        boolean step() {
            if (steps >= fuel) {
                return false;
            }
            steps++;
            return true;
        }

        /** Whether that is not too much. */
        boolean make(int count) {
            made += count;
            return made <= MOST_MADE;
        }

        void open(int calls) {
            mostCalls = Math.max(mostCalls, calls);
        }

        void fall(int kindOfTrouble, int placeOfTrouble, int raisedInt) {
            kind = kindOfTrouble;
            place = placeOfTrouble;
            raised = raisedInt;
        }

        /** What the N behind 'on' gets; the trouble is over. */
        int take() {
            taken++;
            make(MADE_BY_TAKING);
            int what = kind == RAISED ? raised : kind;
            settle();
            return what;
        }

        boolean madeTooMuch() {
            return made > MOST_MADE;
        }

        private void settle() {
            kind = 0;
            place = NONE;
            raised = 0;
        }
    }

    /**
     * Does the acts of a program. Calls, loops and tries stand on stacks of its own and not on
     * Java's, so that a trouble can leave them from wherever it comes.
     */
    private static final class Machine {
        private static final int MOST_CALLS = 10;
        // A step is followed by a handful of acts at most, but for a few long literals.
        private static final int MOST_ACTS = 1000000;

        private final Heap heap;
        private final Out said;
        private final Tally tally;
        private final Signs signs;
        private final BuiltIns builtIns;
        private final long[] shelves = new long[SHELF_COUNT];
        private final boolean[] touched = new boolean[SHELF_COUNT];
        private long[] stack = new long[32];
        private int top;
        // Of each open call: where its variables begin on the stack, and where it goes on behind.
        private final int[] bases = new int[MOST_CALLS];
        private final int[] returns = new int[MOST_CALLS];
        private int calls;
        // Of each open try: its call, how high the stack was, and where its 'on' is.
        private int[] tryCalls = new int[8];
        private int[] tryTops = new int[8];
        private int[] tryActs = new int[8];
        private int tries;
        private Program program;
        private int next;
        private boolean going;

        Machine(Heap heap, Out said, Tally tally) {
            this.heap = heap;
            this.said = said;
            this.tally = tally;
            this.signs = new Signs(heap);
            this.builtIns = new BuiltIns(heap);
        }

        void lay(int shelf, long thing) {
            shelves[shelf] = thing;
            touched[shelf] = false;
        }

        boolean touched(int shelf) {
            return touched[shelf];
        }

        long on(int shelf) {
            return shelves[shelf];
        }

        /** What the last run's function gave. */
        long given() {
            return peek(1);
        }

        void go(Program text, int f) {
            program = text;
            top = 0;
            calls = 0;
            tries = 0;
            next = 0;
            going = true;
            enter(f, 0, 0);
            for (int i = 0; i < MOST_ACTS && going; i++) {
                int act = program.actAt(next);
                int argument = program.argumentAt(next);
                int place = program.placeAt(next);
                next++;
                if (act >= Program.FIRST_STEPPING && !step(place)) {
                    break;
                }
                if (act >= Program.FIRST_MAKING && act < Program.FIRST_BEHIND_MAKING) {
                    work(act, argument, place);
                } else {
                    move(act, argument, place);
                }
            }
            if (going) {
                tally.fall(NO_FUEL, 0, 0);
            }
        }

        private void move(int act, int argument, int place) {
            switch (act) {
                case Program.STEP:
                    break;
                case Program.NUMBER:
                    push(thing(INT, argument));
                    break;
                case Program.LOAD:
                    loadVariable(argument, place);
                    break;
                case Program.STORE:
                    storeVariable(argument);
                    break;
                case Program.DROP:
                    pop();
                    break;
                case Program.JUMP:
                    next = argument;
                    break;
                case Program.JUMP_ZERO:
                    jumpIfZero(argument, place);
                    break;
                case Program.FOR_BEGIN:
                    beginFor(place);
                    break;
                case Program.FOR_NEXT:
                    nextRound(argument);
                    break;
                case Program.SAY:
                    said.tell(heap, pop());
                    said.put('\n');
                    break;
                case Program.RETURN:
                    leave();
                    break;
                case Program.RAISE:
                    raise(place);
                    break;
                case Program.TRY:
                    beginTry(argument);
                    break;
                case Program.TRY_END:
                    tries = Math.max(tries - 1, 0);
                    next = argument;
                    break;
                case Program.ON:
                    takeTrouble(place);
                    break;
                default:
                    enter(argument, program.told(argument, Program.PARAMETERS), place);
            }
        }

        private void work(int act, int argument, int place) {
            heap.forget();
            long last = peek(1);
            long other = peek(2);
            switch (act) {
                case Program.SIGN:
                    give(signs.two(argument, other, last), 2, place);
                    break;
                case Program.INDEX:
                    give(signs.index(other, last), 2, place);
                    break;
                case Program.BUILT_IN_ONE:
                    give(builtIns.one(Word.numbered(argument), last), 1, place);
                    break;
                case Program.BUILT_IN_TWO:
                    give(builtIns.two(Word.numbered(argument), other, last), 2, place);
                    break;
                case Program.LITERAL:
                    gather(argument);
                    give(heap.buildAlike(ROW, 0), argument, place);
                    break;
                case Program.BOX:
                    gather(argument);
                    give(heap.build(PACK, 0), argument, place);
                    break;
                case Program.PUT_PART:
                    give(signs.putPart(last, peek(3), other), 3, place);
                    break;
                case Program.PUT_CELL:
                    putCell(place, argument);
                    break;
                case Program.WALK:
                    beginWalk(place);
                    break;
                case Program.EACH_NEXT:
                    nextOfEach(argument, place);
                    break;
                case Program.FOLD_NEXT:
                    nextOfFold(argument, place);
                    break;
                case Program.EACH_GOT:
                    gotOfEach(argument);
                    break;
                default:
                    gotOfFold(argument);
            }
        }

        /** A new thing comes in the stead of what it was made of, unless there is none. */
        private void give(long made, int parts, int place) {
            if (kindOf(made) == REFUSAL) {
                fall(lowOf(made), place, 0);
            } else if (!tally.make(heap.madeOf(made))) {
                fall(TOO_MUCH_MADE, place, 0);
            } else {
                top = Math.max(top - parts, 0);
                push(made);
            }
        }

        private void gather(int count) {
            for (int i = count; i > 0; i--) {
                heap.put(peek(i));
            }
        }

        private boolean step(int place) {
            boolean done = tally.step();
            if (!done) {
                fall(NO_FUEL, place, 0);
            }
            return done;
        }

        private void loadVariable(int variable, int place) {
            long thing = thing(BARE, 0);
            if (variable < 0) {
                int shelf = -1 - variable;
                thing = isShelf(shelf) ? shelves[shelf] : thing;
            } else {
                int at = variableAt(variable);
                thing = at < top ? stack[at] : thing;
            }
            if (kindOf(thing) == BARE) {
                fall(HAS_NOTHING, place, 0);
            } else {
                push(thing);
            }
        }

        private void storeVariable(int variable) {
            long thing = pop();
            int shelf = -1 - variable;
            int at = variableAt(variable);
            if (isShelf(shelf)) {
                shelves[shelf] = thing;
                touched[shelf] = true;
            } else if (at >= 0 && at < top) {
                stack[at] = thing;
            }
        }

        private int variableAt(int variable) {
            return calls > 0 ? bases[calls - 1] + variable : variable;
        }

        private void jumpIfZero(int to, int place) {
            long thing = pop();
            if (kindOf(thing) != INT) {
                fall(WRONG_KIND, place, 0);
            } else if (lowOf(thing) == 0) {
                next = to;
            }
        }

        private void beginFor(int place) {
            long over = peek(1);
            if (kindOf(over) == INT && lowOf(over) < 0) {
                fall(NO_SIZE, place, 0);
            } else {
                push(thing(INT, 0));
            }
        }

        /** The stack has what the for goes over, and how many rounds there were. */
        private void nextRound(int away) {
            long over = peek(2);
            int round = lowOf(peek(1));
            int rounds = kindOf(over) == INT ? lowOf(over) : heap.sizeOf(over);
            pop();
            if (round >= rounds) {
                pop();
                next = away;
                return;
            }
            push(thing(INT, round + 1));
            push(kindOf(over) == INT ? thing(INT, round) : heap.part(over, round));
        }

        private void raise(int place) {
            long thing = pop();
            if (kindOf(thing) == INT) {
                fall(RAISED, place, lowOf(thing));
            } else {
                fall(WRONG_KIND, place, 0);
            }
        }

        private void beginTry(int act) {
            if (tries == tryCalls.length) {
                tryCalls = Arrays.copyOf(tryCalls, 2 * tries);
                tryTops = Arrays.copyOf(tryTops, 2 * tries);
                tryActs = Arrays.copyOf(tryActs, 2 * tries);
            }
            tryCalls[tries] = calls;
            tryTops[tries] = top;
            tryActs[tries] = act;
            tries++;
        }

        private void takeTrouble(int place) {
            long what = thing(INT, tally.take());
            if (tally.madeTooMuch()) {
                fall(TOO_MUCH_MADE, place, 0);
            } else {
                push(what);
            }
        }

        /** A trouble goes to the innermost try that is open, if it is one that may be taken. */
        private void fall(int kind, int place, int raised) {
            tally.fall(kind, place, raised);
            if (kind >= NO_FUEL || tries == 0) {
                going = false;
                return;
            }
            tries--;
            calls = tryCalls[tries];
            top = tryTops[tries];
            next = tryActs[tries];
        }

        /** The things on top of the stack become the function's first variables. */
        private void enter(int f, int parameters, int place) {
            if (calls == MOST_CALLS) {
                fall(TOO_DEEP, place, 0);
                return;
            }
            bases[calls] = Math.max(top - parameters, 0);
            returns[calls] = next;
            calls++;
            tally.open(calls);
            int variables = program.told(f, Program.VARIABLES);
            for (int i = parameters; i < variables; i++) {
                push(thing(BARE, 0));
            }
            next = program.entryOf(f);
        }

        private void leave() {
            long given = pop();
            while (tries > 0 && tryCalls[tries - 1] >= calls) {
                tries--;
            }
            if (calls > 0) {
                calls--;
                top = bases[calls];
                next = returns[calls];
            }
            push(given);
            going = calls > 0;
        }

        private void putCell(int place, int secondPlace) {
            long table = peek(1);
            long part = peek(2);
            long j = peek(3);
            long i = peek(4);
            int trouble = signs.cellTrouble(table, i, j, part);
            if (trouble != 0) {
                fall(trouble, place, 0);
                return;
            }
            long row = signs.putPart(heap.part(table, lowOf(i)), j, part);
            if (kindOf(row) == REFUSAL) {
                fall(lowOf(row), secondPlace, 0);
            } else {
                give(signs.putPart(table, i, row), 4, place);
            }
        }

        private void beginWalk(int place) {
            if (kindOf(peek(1)) == INT) {
                fall(WRONG_KIND, place, 0);
            } else {
                push(thing(INT, 0));
            }
        }

        /** The stack has what each goes over, what the function gave so far, and how many those are. */
        private void nextOfEach(int f, int place) {
            int done = lowOf(peek(1));
            long over = peek(done + 2);
            if (done < heap.sizeOf(over)) {
                if (step(place)) {
                    push(heap.part(over, done));
                    enter(f, 1, place);
                }
                return;
            }
            pop();
            gather(done);
            long made = kindOf(over) == PACK ? heap.build(PACK, 0) : heap.buildAlike(kindOf(over), 0);
            next++;
            give(made, done + 1, place);
        }

        private void gotOfEach(int again) {
            long got = pop();
            long done = pop();
            push(got);
            push(thing(INT, lowOf(done) + 1));
            next = again;
        }

        /** The stack has what there is by now, what fold goes over, and how many calls there were. */
        private void nextOfFold(int f, int place) {
            int done = lowOf(peek(1));
            long over = peek(2);
            if (done < heap.sizeOf(over)) {
                if (step(place)) {
                    push(peek(3));
                    push(heap.part(over, done));
                    enter(f, 2, place);
                }
                return;
            }
            pop();
            pop();
            next++;
        }

        private void gotOfFold(int again) {
            long got = pop();
            long done = pop();
            long over = pop();
            pop();
            push(got);
            push(over);
            push(thing(INT, lowOf(done) + 1));
            next = again;
        }

        private void push(long thing) {
            if (top == stack.length) {
                stack = Arrays.copyOf(stack, 2 * top);
            }
            stack[top] = thing;
            top++;
        }

        private long pop() {
            long thing = peek(1);
            top = Math.max(top - 1, 0);
            return thing;
        }

        /** The thing that is so far from above on the stack, 1 being the highest. */
        private long peek(int k) {
            return k > 0 && k <= top ? stack[top - k] : thing(INT, 0);
        }
    }
}
