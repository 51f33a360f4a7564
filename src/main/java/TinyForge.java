import java.util.NoSuchElementException;

/**
 * A workshop for a tiny language: a text is typed in, forged into instructions for a small stack
 * machine, and run there on the numbers of an input. What each call promises stands in DOC.md.
 */
public final class TinyForge {
    private static final int MOST_CHARACTERS = 480;
    private static final int MOST_TOKENS = 220;
    private static final int MOST_OPEN = 12;
    private static final int LONGEST_NAME = 8;
    private static final int LARGEST_NUMBER = 2147483647;
    private static final int BYTES_OF_A_LONG = 8;

    private static final int MOST_ARRAYS = 4;
    private static final int LONGEST_ARRAY = 16;
    private static final int MOST_FUNCTIONS = 8;
    private static final int MOST_PARAMETERS = 4;
    private static final int MOST_VARIABLES = 12;

    private static final int MOST_INPUT = 20;
    private static final int MOST_OUTPUT = 30;
    private static final int MOST_TICKS = 400;
    private static final int MOST_CALLS = 12;

    // No token gives more than two instructions; a "while" gives three, but its brackets none.
    private static final int MOST_INSTRUCTIONS = 2 * MOST_TOKENS;
    // Variables, and what can wait at once: three values in each of eleven open calls (the twelfth
    // that is open is the function's block), an index, and the value just worked out.
    private static final int CELLS_OF_A_CALL = MOST_VARIABLES + 36;
    // Far above what 400 ticks of at most 440 instructions can need.
    private static final int MOST_STEPS = 1000000;

    private static final int WRONG_TOKEN = 1;
    private static final int TOO_MUCH = 2;
    private static final int DOES_NOT_FIT = 3;
    private static final int WRONG_NAME = 4;

    private static final int ENDED = 0;
    private static final int TRAP = 1;
    private static final int SPENT = 2;
    private static final int GOING = 3;

    // Kinds of tokens. A sign of one character has that character as its kind.
    private static final int END = 0;
    private static final int NAME = 1;
    private static final int NUMBER = 2;
    private static final int INT = 3;
    private static final int IF = 4;
    private static final int ELSE = 5;
    private static final int WHILE = 6;
    private static final int RETURN = 7;
    private static final int READ = 8;
    private static final int PRINT = 9;
    private static final int DOUBLE_SIGN = 256;
    private static final int SAME = DOUBLE_SIGN + '=';
    private static final int OTHER = DOUBLE_SIGN + '!';
    private static final int AT_MOST = DOUBLE_SIGN + '<';
    private static final int AT_LEAST = DOUBLE_SIGN + '>';
    private static final int BOTH = DOUBLE_SIGN + '&';
    private static final int EITHER = DOUBLE_SIGN + '|';
    private static final int WEAKEST = 1;
    private static final String SINGLE_SIGNS = "+-*/%!~<>=(){}[],;";

    // Codes of instructions. RETURN, READ, PRINT and the signs that work on values are codes too.
    private static final int NUMBER_IN = 10;
    private static final int VARIABLE_IN = 11;
    private static final int SET_VARIABLE = 12;
    private static final int ELEMENT_IN = 13;
    private static final int SET_ELEMENT = 14;
    private static final int CALL = 15;
    private static final int JUMP = 16;
    private static final int JUMP_IF_ZERO = 17;
    private static final int TRUTH = 18;
    private static final int NEGATE = 19;
    private static final int TICK = 20;
    private static final int DROP = 21;

    private final Text text;
    private final Tokens tokens;
    private final Refusal refusal;
    private final Globals globals;
    private final Program program;
    private final Grammar grammar;
    private final Input input;
    private final Machine machine;
    private boolean forged;

    public TinyForge() {
        text = new Text();
        refusal = new Refusal();
        tokens = new Tokens(text, refusal);
        globals = new Globals(tokens, refusal);
        program = new Program();
        Variables variables = new Variables(tokens, refusal);
        Cursor cursor = new Cursor(tokens, refusal);
        grammar = new Grammar(cursor, variables, globals, program);
        input = new Input();
        machine = new Machine(program, input);
        forged = false;
    }

    public int type(long characters, int n) throws IllegalArgumentException, IllegalStateException {
        if (n < 1 || n > BYTES_OF_A_LONG || !Text.areCharacters(characters, n)) {
            throw new IllegalArgumentException();
        }
        if (!text.hasRoomFor(n)) {
            throw new IllegalStateException();
        }
        text.add(characters, n);
        return text.length;
    }

    public int clear() {
        int length = text.length;
        text.length = 0;
        return length;
    }

    public int forge() throws UnsupportedOperationException {
        // A refused forge() ends what was forged and run before, too.
        machine.forget();
        refusal.forget();
        tokens.takeAll();
        if (refusal.isNone()) {
            grammar.readWhole();
        }
        if (refusal.isNone()) {
            globals.join(program);
        }
        forged = refusal.isNone();
        if (!forged) {
            throw new UnsupportedOperationException();
        }
        return globals.functions;
    }

    public int why() {
        return refusal.reason;
    }

    public int where() {
        return refusal.place;
    }

    public int give(int v) throws IllegalStateException {
        if (input.count >= MOST_INPUT) {
            throw new IllegalStateException();
        }
        input.add(v);
        return input.count;
    }

    public int empty() {
        int count = input.count;
        input.count = 0;
        return count;
    }

    public int run() throws NoSuchElementException {
        if (!forged) {
            throw new NoSuchElementException();
        }
        return machine.work();
    }

    public int result() {
        return machine.result;
    }

    public int output(int k) {
        if (k == -1) {
            return machine.outputs;
        }
        return machine.outputAt(k);
    }

    public int ticks() {
        return machine.ticks;
    }

    /** The characters that were typed. */
    private static final class Text {
        final char[] characters = new char[MOST_CHARACTERS];
        int length = 0;

        static boolean areCharacters(long bytes, int n) {
            for (int k = 0; k < n; k++) {
                int code = byteOf(bytes, k);
                if (code != '\n' && (code < ' ' || code > '~')) {
                    return false;
                }
            }
            return true;
        }

        /** A name as a number: it has at most eight characters, so that one long holds it. */
        static long packed(String name) {
            long value = 0;
            for (int k = 0; k < name.length(); k++) {
                value = value << 8 | name.charAt(k);
            }
            return value;
        }

        static int byteOf(long bytes, int k) {
            return (int) (bytes >>> (8 * k)) & 255;
        }

        boolean hasRoomFor(int n) {
            return n <= MOST_CHARACTERS - length;
        }

        void add(long bytes, int n) {
            for (int k = 0; k < n && length < MOST_CHARACTERS; k++) {
                characters[length] = (char) byteOf(bytes, k);
                length++;
            }
        }

        /** The character at a place; a blank behind the end, where no token goes on. */
        char at(int place) {
            return place >= 0 && place < length ? characters[place] : ' ';
        }

        boolean isBlank(int place) {
            return at(place) == ' ' || at(place) == '\n';
        }

        boolean isLetter(int place) {
            char c = at(place);
            return c >= 'a' && c <= 'z' || c >= 'A' && c <= 'Z';
        }

        boolean isDigit(int place) {
            return at(place) >= '0' && at(place) <= '9';
        }

        boolean spells(String word, int from, int to) {
            if (to - from != word.length()) {
                return false;
            }
            for (int k = 0; k < word.length(); k++) {
                if (at(from + k) != word.charAt(k)) {
                    return false;
                }
            }
            return true;
        }
    }

    /** Why and where a text is refused. */
    private static final class Refusal {
        int reason = 0;
        int place = -1;
        // The place of the first name that does not fit, or -1.
        int wrongName = -1;

        void forget() {
            reason = 0;
            place = -1;
            wrongName = -1;
        }

        boolean isNone() {
            return reason == 0;
        }

        /** The first refusal stays, so that what is read on behind it can't change the answer. */
        void refuse(int why, int where) {
            if (reason == 0) {
                reason = why;
                place = where;
            }
        }

        /** Names are not looked at in the order in which they stand: the foremost one counts. */
        void blameName(int where) {
            if (wrongName < 0 || where < wrongName) {
                wrongName = where;
            }
        }

        void refuseWrongName() {
            if (wrongName >= 0) {
                refuse(WRONG_NAME, wrongName);
            }
        }
    }

    /** The tokens of the text. */
    private static final class Tokens {
        final Text text;
        final Refusal refusal;
        final int[] kinds = new int[MOST_TOKENS];
        final int[] places = new int[MOST_TOKENS];
        // A number's value, or a name as Text.packed() gives it.
        final long[] values = new long[MOST_TOKENS];
        int count = 0;
        // The place of the first token that there is no room for, or -1.
        int tooMany = -1;

        Tokens(Text text, Refusal refusal) {
            this.text = text;
            this.refusal = refusal;
        }

        void takeAll() {
            count = 0;
            tooMany = -1;
            int at = 0;
            // Each step passes a character at least.
            for (int step = 0; step < MOST_CHARACTERS && at < text.length; step++) {
                at = text.isBlank(at) ? at + 1 : takeOne(at);
            }
            // A wrong token further behind goes before this.
            if (tooMany >= 0) {
                refusal.refuse(TOO_MUCH, tooMany);
            }
        }

        /** Takes the token at a place: the place behind it. */
        private int takeOne(int at) {
            if (text.isLetter(at)) {
                return takeName(at);
            }
            if (text.isDigit(at)) {
                return takeNumber(at);
            }
            return takeSign(at);
        }

        private int takeName(int at) {
            long name = 0;
            int end = at;
            for (; end < text.length && (text.isLetter(end) || text.isDigit(end)); end++) {
                name = name << 8 | text.at(end);
            }
            if (end - at > LONGEST_NAME) {
                refusal.refuse(WRONG_TOKEN, at);
            }
            add(kindOfName(at, end), at, name);
            return end;
        }

        private int kindOfName(int from, int to) {
            if (text.spells("int", from, to)) {
                return INT;
            }
            if (text.spells("if", from, to)) {
                return IF;
            }
            if (text.spells("else", from, to)) {
                return ELSE;
            }
            if (text.spells("while", from, to)) {
                return WHILE;
            }
            if (text.spells("return", from, to)) {
                return RETURN;
            }
            if (text.spells("read", from, to)) {
                return READ;
            }
            return text.spells("print", from, to) ? PRINT : NAME;
        }

        private int takeNumber(int at) {
            long value = 0;
            int end = at;
            for (; end < text.length && text.isDigit(end); end++) {
                // Once too large it stays as it is: any number of digits may follow.
                if (value <= LARGEST_NUMBER) {
                    value = value * 10 + (text.at(end) - '0');
                }
            }
            if (value > LARGEST_NUMBER || text.isLetter(end)) {
                refusal.refuse(WRONG_TOKEN, at);
            }
            add(NUMBER, at, value);
            return end;
        }

        private int takeSign(int at) {
            char first = text.at(at);
            if (isDoubleSign(first, text.at(at + 1))) {
                add(DOUBLE_SIGN + first, at, 0);
                return at + 2;
            }
            if (SINGLE_SIGNS.indexOf(first) < 0) {
                refusal.refuse(WRONG_TOKEN, at);
            }
            add(first, at, 0);
            return at + 1;
        }

        private static boolean isDoubleSign(char first, char second) {
            if (first == '&' || first == '|') {
                return second == first;
            }
            return second == '=' && (first == '=' || first == '!' || first == '<' || first == '>');
        }

        private void add(int kind, int place, long value) {
            if (count < MOST_TOKENS) {
                kinds[count] = kind;
                places[count] = place;
                values[count] = value;
                count++;
            } else if (tooMany < 0) {
                tooMany = place;
            }
        }

        int kindOf(int token) {
            return token >= 0 && token < count ? kinds[token] : END;
        }

        int placeOf(int token) {
            return token >= 0 && token < count ? places[token] : text.length;
        }

        long valueOf(int token) {
            return token >= 0 && token < count ? values[token] : 0;
        }
    }

    /** Where the reading of the tokens is, and how many things are open there. */
    private static final class Cursor {
        final Tokens tokens;
        final Refusal refusal;
        int at = 0;
        int open = 0;

        Cursor(Tokens tokens, Refusal refusal) {
            this.tokens = tokens;
            this.refusal = refusal;
        }

        void start() {
            at = 0;
            open = 0;
        }

        /** The kind of the token here; END behind a refusal, so that all reading comes to an end. */
        int kind() {
            return refusal.isNone() ? tokens.kindOf(at) : END;
        }

        int nextKind() {
            return refusal.isNone() ? tokens.kindOf(at + 1) : END;
        }

        int number() {
            return (int) tokens.valueOf(at);
        }

        void pass(int kind) {
            if (kind() == kind) {
                at++;
            } else {
                refusal.refuse(DOES_NOT_FIT, tokens.placeOf(at));
            }
        }

        /** Passes a token that opens something, to be closed by close() or passClosing(). */
        void passOpening(int kind) {
            if (kind() != kind) {
                refusal.refuse(DOES_NOT_FIT, tokens.placeOf(at));
            } else if (open >= MOST_OPEN) {
                refusal.refuse(TOO_MUCH, tokens.placeOf(at));
            } else {
                at++;
                open++;
            }
        }

        void passClosing(int kind) {
            pass(kind);
            open--;
        }

        void close() {
            open--;
        }
    }

    /** The variables that are there at a place; a variable's number is its cell in a call. */
    private static final class Variables {
        final Tokens tokens;
        final Refusal refusal;
        final long[] names = new long[MOST_VARIABLES];
        int count = 0;
        int startOfBlock = 0;

        Variables(Tokens tokens, Refusal refusal) {
            this.tokens = tokens;
            this.refusal = refusal;
        }

        void startFunction() {
            count = 0;
            startOfBlock = 0;
        }

        /** Begins a block: where the one around it began, to be told at its end. */
        int startBlock() {
            int around = startOfBlock;
            startOfBlock = count;
            return around;
        }

        void endBlock(int around) {
            count = startOfBlock;
            startOfBlock = around;
        }

        /** Makes a variable of a token's name: its number. */
        int make(int token) {
            long name = tokens.valueOf(token);
            if (count >= MOST_VARIABLES || find(name) >= startOfBlock) {
                refusal.blameName(tokens.placeOf(token));
                return 0;
            }
            names[count] = name;
            count++;
            return count - 1;
        }

        /** The number of the variable that a token names. */
        int use(int token) {
            int number = find(tokens.valueOf(token));
            if (number < 0) {
                refusal.blameName(tokens.placeOf(token));
                return 0;
            }
            return number;
        }

        /** An array or a function is not there where a variable hides it. */
        void mustNotHide(int token) {
            if (find(tokens.valueOf(token)) >= 0) {
                refusal.blameName(tokens.placeOf(token));
            }
        }

        void mustNotMake(int token) {
            refusal.blameName(tokens.placeOf(token));
        }

        private int find(long name) {
            for (int k = count - 1; k >= 0; k--) {
                if (names[k] == name) {
                    return k;
                }
            }
            return -1;
        }
    }

    /** The arrays and functions of the text, which share their names. */
    private static final class Globals {
        final Tokens tokens;
        final Refusal refusal;
        final long[] names = new long[MOST_ARRAYS + MOST_FUNCTIONS];
        final boolean[] areFunctions = new boolean[MOST_ARRAYS + MOST_FUNCTIONS];
        // A function's first instruction, or the cell of an array's first element.
        final int[] starts = new int[MOST_ARRAYS + MOST_FUNCTIONS];
        // A function's number of parameters, or an array's length.
        final int[] sizes = new int[MOST_ARRAYS + MOST_FUNCTIONS];
        int count = 0;
        int arrays = 0;
        int functions = 0;

        Globals(Tokens tokens, Refusal refusal) {
            this.tokens = tokens;
            this.refusal = refusal;
        }

        void start() {
            count = 0;
            arrays = 0;
            functions = 0;
        }

        void makeArray(int name, int length) {
            long size = tokens.valueOf(length);
            if (size < 1 || size > LONGEST_ARRAY) {
                refusal.blameName(tokens.placeOf(length));
                size = 0;
            }
            if (arrays < MOST_ARRAYS && isNew(name)) {
                add(name, false, arrays * LONGEST_ARRAY, (int) size);
                arrays++;
            } else {
                refusal.blameName(tokens.placeOf(name));
            }
        }

        void makeFunction(int name, int start, int parameters) {
            if (functions < MOST_FUNCTIONS && isNew(name)) {
                add(name, true, start, parameters);
                functions++;
            } else {
                refusal.blameName(tokens.placeOf(name));
            }
        }

        private boolean isNew(int name) {
            return find(tokens.valueOf(name)) < 0;
        }

        private void add(int name, boolean isFunction, int start, int size) {
            if (count < names.length) {
                names[count] = tokens.valueOf(name);
                areFunctions[count] = isFunction;
                starts[count] = start;
                sizes[count] = size;
                count++;
            }
        }

        private int find(long name) {
            for (int k = 0; k < count; k++) {
                if (names[k] == name) {
                    return k;
                }
            }
            return -1;
        }

        /** Puts starts and lengths for the names in the program, now that all of them are known. */
        void join(Program program) {
            for (int k = 0; k < program.length; k++) {
                int code = program.codes[k];
                if (code == CALL || code == ELEMENT_IN || code == SET_ELEMENT) {
                    joinOne(program, k, code == CALL);
                }
            }
            joinMain(program);
            refusal.refuseWrongName();
        }

        private void joinOne(Program program, int k, boolean isCall) {
            int token = program.operands[k];
            int global = find(tokens.valueOf(token));
            if (global < 0 || areFunctions[global] != isCall
                    || isCall && sizes[global] != program.sizes[k]) {
                refusal.blameName(tokens.placeOf(token));
                return;
            }
            program.operands[k] = starts[global];
            program.sizes[k] = sizes[global];
        }

        private void joinMain(Program program) {
            int main = find(Text.packed("main"));
            if (main >= 0 && areFunctions[main] && sizes[main] == 0) {
                program.start = starts[main];
            } else {
                refusal.blameName(tokens.text.length);
            }
        }
    }

    /** The instructions for the machine, each with two numbers that belong to it. */
    private static final class Program {
        final int[] codes = new int[MOST_INSTRUCTIONS];
        // A number, a cell or an instruction; until it is joined, the token of a global name.
        final int[] operands = new int[MOST_INSTRUCTIONS];
        // How many values a call takes along, or an array's length.
        final int[] sizes = new int[MOST_INSTRUCTIONS];
        int length = 0;
        int start = 0;

        void add(int code, int operand, int size) {
            if (length < MOST_INSTRUCTIONS) {
                codes[length] = code;
                operands[length] = operand;
                sizes[length] = size;
                length++;
            }
        }

        /** Adds a jump ahead, whose aim is set by land(): its number. */
        int addJump(int code) {
            add(code, 0, 0);
            return length - 1;
        }

        void land(int jump) {
            if (jump >= 0 && jump < length) {
                operands[jump] = length;
            }
        }
    }

    /**
     * Reads the tokens by the grammar and forges them on the way. Every way back into statement(),
     * value() or one() opens something, so that it ends where no more may be open.
     */
    private static final class Grammar {
        final Cursor cursor;
        final Variables variables;
        final Globals globals;
        final Program program;

        Grammar(Cursor cursor, Variables variables, Globals globals, Program program) {
            this.cursor = cursor;
            this.variables = variables;
            this.globals = globals;
            this.program = program;
        }

        void readWhole() {
            cursor.start();
            globals.start();
            program.length = 0;
            part();
            for (int k = 1; k < MOST_TOKENS && cursor.kind() != END; k++) {
                part();
            }
        }

        private void part() {
            cursor.pass(INT);
            int name = cursor.at;
            cursor.pass(NAME);
            if (cursor.kind() == '[') {
                array(name);
            } else {
                function(name);
            }
        }

        private void array(int name) {
            cursor.passOpening('[');
            globals.makeArray(name, cursor.at);
            cursor.pass(NUMBER);
            cursor.passClosing(']');
            cursor.pass(';');
        }

        private void function(int name) {
            variables.startFunction();
            cursor.pass('(');
            int count = cursor.kind() == ')' ? 0 : parameters();
            cursor.pass(')');
            globals.makeFunction(name, program.length, count);
            cursor.passOpening('{');
            statements();
            cursor.passClosing('}');
            program.add(NUMBER_IN, 0, 0);
            program.add(RETURN, 0, 0);
        }

        /** Reads the parameters of a function: how many they are, those beyond four too. */
        private int parameters() {
            int count = 0;
            do {
                if (count > 0) {
                    cursor.pass(',');
                }
                cursor.pass(INT);
                if (count >= MOST_PARAMETERS) {
                    variables.mustNotMake(cursor.at);
                }
                variables.make(cursor.at);
                cursor.pass(NAME);
                count++;
            } while (count < MOST_TOKENS && cursor.kind() == ',');
            return count;
        }

        private void statements() {
            for (int k = 0; k < MOST_TOKENS && cursor.kind() != '}' && cursor.kind() != END; k++) {
                statement(true);
            }
        }

        private void statement(boolean inBlock) {
            switch (cursor.kind()) {
                case '{':
                    block();
                    break;
                case INT:
                    newVariable(inBlock);
                    break;
                case IF:
                case WHILE:
                    conditional(cursor.kind());
                    break;
                case RETURN:
                    cursor.pass(RETURN);
                    endWith(RETURN, 0);
                    break;
                case PRINT:
                    cursor.pass(PRINT);
                    cursor.passOpening('(');
                    value(WEAKEST);
                    cursor.passClosing(')');
                    cursor.pass(';');
                    program.add(PRINT, 0, 0);
                    break;
                case NAME:
                    namedStatement(cursor.at);
                    break;
                default:
                    endWith(DROP, 0);
                    break;
            }
        }

        /** Reads a statement's last value and its end, and adds what is done with the value. */
        private void endWith(int code, int operand) {
            value(WEAKEST);
            cursor.pass(';');
            program.add(code, operand, 0);
        }

        private void block() {
            int around = variables.startBlock();
            cursor.passOpening('{');
            statements();
            cursor.passClosing('}');
            variables.endBlock(around);
        }

        private void newVariable(boolean inBlock) {
            if (!inBlock) {
                variables.mustNotMake(cursor.at);
            }
            cursor.pass(INT);
            int name = cursor.at;
            cursor.pass(NAME);
            cursor.pass('=');
            value(WEAKEST);
            cursor.pass(';');
            // Made only now: its own value may still name one that it hides.
            program.add(SET_VARIABLE, variables.make(name), 0);
        }

        private void conditional(int word) {
            int start = program.length;
            if (word == WHILE) {
                program.add(TICK, 0, 0);
            }
            cursor.pass(word);
            cursor.passOpening('(');
            value(WEAKEST);
            cursor.close();
            cursor.passOpening(')');
            int jump = program.addJump(JUMP_IF_ZERO);
            statement(false);
            cursor.close();
            if (word == WHILE) {
                program.add(JUMP, start, 0);
            } else if (cursor.kind() == ELSE) {
                jump = otherwise(jump);
            }
            program.land(jump);
        }

        /** Reads "else" and its statement: the jump over it, which takes the place of another. */
        private int otherwise(int jumpToElse) {
            cursor.passOpening(ELSE);
            int jump = program.addJump(JUMP);
            program.land(jumpToElse);
            statement(false);
            cursor.close();
            return jump;
        }

        private void namedStatement(int name) {
            if (cursor.nextKind() == '=') {
                int variable = variables.use(name);
                cursor.pass(NAME);
                cursor.pass('=');
                endWith(SET_VARIABLE, variable);
            } else if (cursor.nextKind() == '[') {
                elementFirst(name);
            } else {
                endWith(DROP, 0);
            }
        }

        /** Only behind the element it shows whether it is set or begins a value. */
        private void elementFirst(int name) {
            element();
            if (cursor.kind() == '=') {
                cursor.pass('=');
                endWith(SET_ELEMENT, name);
            } else {
                program.add(ELEMENT_IN, name, 0);
                signs(WEAKEST);
                cursor.pass(';');
                program.add(DROP, 0, 0);
            }
        }

        /** Reads a value whose signs bind at least so strongly. */
        private void value(int least) {
            one();
            signs(least);
        }

        /** Apart from value(), as a statement may have read the first part already. */
        private void signs(int least) {
            for (int k = 0; k < MOST_TOKENS && strengthOf(cursor.kind()) >= least; k++) {
                sign(cursor.kind());
            }
        }

        private static int strengthOf(int kind) {
            switch (kind) {
                case EITHER:
                    return WEAKEST;
                case BOTH:
                    return WEAKEST + 1;
                case SAME:
                case OTHER:
                    return WEAKEST + 2;
                case '<':
                case '>':
                case AT_MOST:
                case AT_LEAST:
                    return WEAKEST + 3;
                case '+':
                case '-':
                    return WEAKEST + 4;
                case '*':
                case '/':
                case '%':
                    return WEAKEST + 5;
                default:
                    return 0;
            }
        }

        private void sign(int sign) {
            cursor.passOpening(sign);
            if (sign == EITHER || sign == BOTH) {
                int jump = program.addJump(sign);
                value(strengthOf(sign) + 1);
                program.add(TRUTH, 0, 0);
                program.land(jump);
            } else {
                value(strengthOf(sign) + 1);
                program.add(sign, 0, 0);
            }
            cursor.close();
        }

        private void one() {
            switch (cursor.kind()) {
                case '-':
                case '!':
                case '~':
                    signed(cursor.kind());
                    break;
                case NUMBER:
                    program.add(NUMBER_IN, cursor.number(), 0);
                    cursor.pass(NUMBER);
                    break;
                case READ:
                    cursor.pass(READ);
                    cursor.passOpening('(');
                    cursor.passClosing(')');
                    program.add(READ, 0, 0);
                    break;
                case NAME:
                    namedValue(cursor.at);
                    break;
                case '(':
                    cursor.passOpening('(');
                    value(WEAKEST);
                    cursor.passClosing(')');
                    break;
                default:
                    // Here a value must begin, and nothing that is here can begin one.
                    cursor.pass(NUMBER);
                    break;
            }
        }

        private void signed(int sign) {
            cursor.passOpening(sign);
            one();
            cursor.close();
            program.add(sign == '-' ? NEGATE : sign, 0, 0);
        }

        private void namedValue(int name) {
            if (cursor.nextKind() == '[') {
                element();
                program.add(ELEMENT_IN, name, 0);
            } else if (cursor.nextKind() == '(') {
                variables.mustNotHide(name);
                cursor.pass(NAME);
                program.add(CALL, name, given());
            } else {
                program.add(VARIABLE_IN, variables.use(name), 0);
                cursor.pass(NAME);
            }
        }

        /** Reads NAME "[" value "]" without saying what is done with the element. */
        private void element() {
            variables.mustNotHide(cursor.at);
            cursor.pass(NAME);
            cursor.passOpening('[');
            value(WEAKEST);
            cursor.passClosing(']');
        }

        /** Reads the values that a call takes along: how many they are. */
        private int given() {
            int count = 0;
            cursor.passOpening('(');
            if (cursor.kind() != ')') {
                value(WEAKEST);
                count = 1;
                for (; count < MOST_TOKENS && cursor.kind() == ','; count++) {
                    cursor.pass(',');
                    value(WEAKEST);
                }
            }
            cursor.passClosing(')');
            return count;
        }
    }

    /** The numbers that come in. */
    private static final class Input {
        final int[] numbers = new int[MOST_INPUT];
        int count = 0;
        int next = 0;

        void add(int number) {
            if (count < MOST_INPUT) {
                numbers[count] = number;
                count++;
            }
        }

        int take() {
            if (next >= count) {
                return 0;
            }
            next++;
            return numbers[next - 1];
        }
    }

    /** Runs a program on a stack on which each open call has its variables and waiting values. */
    private static final class Machine {
        final Program program;
        final Input input;
        final int[] stack = new int[MOST_CALLS * CELLS_OF_A_CALL];
        final int[] elements = new int[MOST_ARRAYS * LONGEST_ARRAY];
        final int[] returns = new int[MOST_CALLS];
        final int[] bases = new int[MOST_CALLS];
        final int[] output = new int[MOST_OUTPUT];
        int top = 0;
        int base = 0;
        int calls = 0;
        int at = 0;
        int state = ENDED;
        int outputs = 0;
        int ticks = 0;
        int result = 0;

        Machine(Program program, Input input) {
            this.program = program;
            this.input = input;
        }

        void forget() {
            outputs = 0;
            ticks = 0;
            result = 0;
        }

        int outputAt(int k) {
            return k >= 0 && k < outputs ? output[k] : 0;
        }

        /** Runs the program from its start: how that ended. */
        int work() {
            forget();
            top = 0;
            base = 0;
            calls = 0;
            input.next = 0;
            for (int k = 0; k < elements.length; k++) {
                elements[k] = 0;
            }
            state = GOING;
            call(program.start, 0);
            for (int k = 0; k < MOST_STEPS && state == GOING; k++) {
                step();
            }
            return state == GOING ? SPENT : state;
        }

        private void step() {
            if (at < 0 || at >= program.length) {
                state = TRAP;
                return;
            }
            int code = program.codes[at];
            int operand = program.operands[at];
            int size = program.sizes[at];
            at++;
            switch (code) {
                case CALL:
                    call(operand, size);
                    break;
                case RETURN:
                    leave(pop());
                    break;
                case JUMP:
                    at = operand;
                    break;
                case JUMP_IF_ZERO:
                    if (pop() == 0) {
                        at = operand;
                    }
                    break;
                case BOTH:
                case EITHER:
                    decide(code == EITHER, operand);
                    break;
                case TICK:
                    tick();
                    break;
                case ELEMENT_IN:
                    fetchElement(operand, size);
                    break;
                case SET_ELEMENT:
                    setElement(operand, size);
                    break;
                case PRINT:
                    put(pop());
                    break;
                default:
                    move(code, operand);
                    break;
            }
        }

        private void move(int code, int operand) {
            switch (code) {
                case NUMBER_IN:
                    push(operand);
                    break;
                case VARIABLE_IN:
                    push(cell(base + operand));
                    break;
                case SET_VARIABLE:
                    setCell(base + operand, pop());
                    break;
                case READ:
                    push(input.take());
                    break;
                case DROP:
                    pop();
                    break;
                case TRUTH:
                    push(truth(pop() != 0));
                    break;
                case NEGATE:
                    push(-pop());
                    break;
                case '!':
                    push(truth(pop() == 0));
                    break;
                case '~':
                    push(~pop());
                    break;
                default:
                    int second = pop();
                    push(workedOut(code, pop(), second));
                    break;
            }
        }

        private static int workedOut(int sign, int first, int second) {
            switch (sign) {
                case '+':
                    return first + second;
                case '-':
                    return first - second;
                case '*':
                    return first * second;
                case '/':
                    return second == 0 ? -1 : first / second;
                case '%':
                    return second == 0 ? first : first % second;
                case '<':
                    return truth(first < second);
                case '>':
                    return truth(first > second);
                case AT_MOST:
                    return truth(first <= second);
                case AT_LEAST:
                    return truth(first >= second);
                case SAME:
                    return truth(first == second);
                default:
                    return truth(first != second);
            }
        }

        private static int truth(boolean holds) {
            return holds ? 1 : 0;
        }

        /** Leaves the first part's truth when it says it all, and drops it otherwise. */
        private void decide(boolean wanted, int end) {
            boolean first = pop() != 0;
            if (first == wanted) {
                push(truth(first));
                at = end;
            }
        }

        private void call(int start, int given) {
            if (calls >= MOST_CALLS) {
                state = SPENT;
                return;
            }
            tick();
            returns[calls] = at;
            bases[calls] = base;
            calls++;
            // The values given are the callee's first variables where they stand.
            base = top - given;
            top = base + MOST_VARIABLES;
            at = start;
        }

        private void leave(int value) {
            if (calls <= 1) {
                result = value;
                state = ENDED;
                return;
            }
            calls--;
            top = base;
            base = bases[calls];
            at = returns[calls];
            push(value);
        }

        private void tick() {
            if (ticks >= MOST_TICKS) {
                state = SPENT;
            } else {
                ticks++;
            }
        }

        private void fetchElement(int start, int length) {
            int index = pop();
            if (index < 0 || index >= length) {
                state = TRAP;
            } else {
                push(elements[start + index]);
            }
        }

        private void setElement(int start, int length) {
            int value = pop();
            int index = pop();
            if (index < 0 || index >= length) {
                state = TRAP;
            } else {
                elements[start + index] = value;
            }
        }

        private void put(int number) {
            if (outputs >= MOST_OUTPUT) {
                state = TRAP;
            } else {
                output[outputs] = number;
                outputs++;
            }
        }

        private void push(int value) {
            setCell(top, value);
            top++;
        }

        private int pop() {
            top--;
            return cell(top);
        }

        private int cell(int k) {
            return k >= 0 && k < stack.length ? stack[k] : 0;
        }

        private void setCell(int k, int value) {
            if (k >= 0 && k < stack.length) {
                stack[k] = value;
            }
        }
    }
}
