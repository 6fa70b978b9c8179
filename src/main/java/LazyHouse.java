/** A lazy language and its machine: a tape is read as a program, which a machine of steps evaluates. */
public final class LazyHouse {
    // Limits that the document tells.
    private static final int TAPE_LIMIT = 2000;
    private static final int FED_AT_ONCE = 20;
    private static final int TEXT_LIMIT = 1500;
    private static final int FRAMES_LIMIT = 3000;
    private static final int NESTING_LIMIT = 60;
    private static final int DIGITS_LIMIT = 9;
    private static final int HEAP_AT_FIRST = 2000;
    private static final int HEAP_LEAST = 10;
    private static final int HEAP_MOST = 20000;
    private static final int STEPS_MOST = 20000;

    // Limits of our own, far above what 2000 bytes of program can need.
    private static final int LOOP_LIMIT = 1000000;
    private static final int ROW_LIMIT = 1 << 20;

    // What is spelled in every program: the names and the makers that get the first numbers, in this order.
    private static final String KNOWN_LETTERS = "letincaseofmainTrueFalse";
    private static final int LET_NAME = 1;
    private static final int OF_NAME = 4;
    private static final int MAIN_NAME = 5;
    private static final int TRUE_MAKER = 1;
    private static final int FALSE_MAKER = 2;

    // Kinds of words of the tape. A sign of one byte has that byte as its kind.
    private static final int TOKEN_END = 0;
    private static final int TOKEN_BAD = 1;
    private static final int TOKEN_NAME = 2;
    private static final int TOKEN_MAKER = 3;
    private static final int TOKEN_NUMBER = 4;
    private static final int TOKEN_LET = 5; // these four in the order of their numbers as names
    private static final int TOKEN_IN = 6;
    private static final int TOKEN_CASE = 7;
    private static final int TOKEN_OF = 8;
    private static final int TOKEN_ARROW = 9;
    private static final int TOKEN_SAME = 10;

    // Fields of the names and the makers of a program; the makers have the first two alone.
    private static final int SPELLED_AT = 0;
    private static final int SPELLED_LENGTH = 1;
    private static final int NAME_VARIABLE = 2;
    private static final int NAME_DEFINITION = 3;

    private static final int DEFINITION_VARIABLES = 0;
    private static final int DEFINITION_LENGTH = 1;
    private static final int DEFINITION_BODY = 2;

    private static final int SCOPE_FROM = 0;
    private static final int SCOPE_TO = 1;

    private static final int VARIABLE_SCOPE = 0;
    private static final int VARIABLE_BEFORE = 1;
    private static final int VARIABLE_SEEN = 2;

    private static final int USE_NAME = 0;
    private static final int USE_PLACE = 1;
    private static final int USE_NODE = 2;
    private static final int USE_VARIABLE = 3;

    // Fields of a node.
    private static final int KIND = 0;
    private static final int VALUE = 1;
    private static final int BODY = 2;
    private static final int LIST = 3;
    private static final int LENGTH = 4;
    private static final int VARIABLES = 5;
    private static final int NEXT = 6;
    private static final int USES_FROM = 7;
    private static final int USES_TO = 8;
    private static final int VARIABLES_FROM = 9;
    private static final int VARIABLES_TO = 10;
    private static final int FREE_AT = 11;
    private static final int FREE_LENGTH = 12;
    private static final int FORM = 13;
    private static final int OBJECT_COST = 14;
    private static final int FRAME_COST = 15;
    private static final int NODE_WIDTH = 16;

    // Kinds of nodes. Of each, what its VALUE, BODY and LIST are stands behind it.
    private static final int NODE_NAME = 1; // use, none, none; becomes one of the next two
    private static final int NODE_VARIABLE = 2; // variable, none, none
    private static final int NODE_DEFINED = 3; // definition, none, none
    private static final int NODE_NUMBER = 4; // number, none, none
    private static final int NODE_MAKER = 5; // maker, none, none
    private static final int NODE_DATUM = 6; // maker, none, fields
    private static final int NODE_LAMBDA = 7; // none, expression, none
    private static final int NODE_CALL = 8; // none, what is called, arguments
    private static final int NODE_LET = 9; // none, expression, binds
    private static final int NODE_BIND = 10; // variable, expression, none
    private static final int NODE_CASE = 11; // none, what is looked at, the one NODE_CHOICES
    private static final int NODE_CHOICES = 12; // none, none, alternatives
    private static final int NODE_FOR_NUMBER = 13; // number, expression, none
    private static final int NODE_FOR_MAKER = 14; // maker, expression, none
    private static final int NODE_FOR_ANY = 15; // none, expression, none
    private static final int NODE_SIGN = 16; // sign, left side, right side

    // What is made of an expression in its place.
    private static final int FORM_SIMPLE = 0;
    private static final int FORM_FUNCTION = 1;
    private static final int FORM_DATUM = 2;
    private static final int FORM_DELAY = 3;

    // Tags of the machine's words; the last two stand for a DEFINITION without PARAMETERS that isn't DONE.
    private static final int WORD_NUMBER = 0;
    private static final int WORD_MAKER = 1;
    private static final int WORD_DEFINITION = 2;
    private static final int WORD_OBJECT = 3;
    private static final int WORD_FRESH = 4;
    private static final int WORD_BUSY = 5;

    private static final int OBJECT_CELLS = 2;
    private static final int OBJECT_NONE = 0;
    private static final int OBJECT_DELAY = 1;
    private static final int OBJECT_BUSY = 2;
    private static final int OBJECT_DONE = 3;
    private static final int OBJECT_FUNCTION = 4;
    private static final int OBJECT_DATUM = 5;
    private static final int OBJECT_PART = 6;
    private static final int OBJECT_MOVED = 7;

    private static final int FRAME_CELLS = 2;
    private static final int FRAME_NONE = 0;
    private static final int FRAME_UPDATE = 1;
    private static final int FRAME_CHOICE = 2;
    private static final int FRAME_LEFT = 3;
    private static final int FRAME_RIGHT = 4;
    private static final int FRAME_CALL = 5;
    private static final int FRAME_SHOW = 6;
    private static final int FRAME_REST = 7;

    private static final int MODE_NONE = 0;
    private static final int MODE_EVALUATE = 1;
    private static final int MODE_ENTER = 2;
    private static final int MODE_GIVE = 3;
    private static final int MODE_OVER = 4;
    private static final int MODE_FAILED = 5;

    private static final int ERROR_BUSY = 1;
    private static final int ERROR_NO_FUNCTION = 2;
    private static final int ERROR_NO_ALTERNATIVE = 3;
    private static final int ERROR_NO_NUMBER = 4;
    private static final int ERROR_ZERO = 5;
    private static final int ERROR_HEAP = 6;
    private static final int ERROR_FRAMES = 7;
    private static final int ERROR_TEXT = 8;

    private final Bytes tape;
    private final Program code;
    private final Parser parser;
    private final Binder binder;
    private final Machine machine;
    private boolean readable;
    private int heapSize;

    public LazyHouse() {
        tape = new Bytes(TAPE_LIMIT);
        code = new Program();
        parser = new Parser(code);
        binder = new Binder(code);
        machine = new Machine(code);
        readable = false;
        heapSize = HEAP_AT_FIRST;
    }

    public int feed(int a, int b, int c, int d, int e) {
        if (tape.length() > TAPE_LIMIT - FED_AT_ONCE) {
            return -1;
        }
        tape.addFour(a);
        tape.addFour(b);
        tape.addFour(c);
        tape.addFour(d);
        tape.addFour(e);
        return tape.length();
    }

    public int end(int n) {
        if (n < 0 || n > tape.length()) {
            return -1;
        }
        tape.cut(n);
        return n;
    }

    public int program() {
        machine.remove();
        code.load(tape);
        tape.cut(0);
        int wrong = parser.parse();
        if (wrong < 0) {
            wrong = binder.bind();
        }
        readable = wrong < 0;
        return readable ? code.definitions.rows() - 1 : -1 - wrong;
    }

    public int heap(int n) {
        if (n < HEAP_LEAST || n > HEAP_MOST) {
            return -1;
        }
        heapSize = n;
        return 1;
    }

    public int start() {
        if (!readable) {
            return 0;
        }
        machine.begin(heapSize);
        return 1;
    }

    public int step(int n) {
        if (!machine.exists() || n < 0 || n > STEPS_MOST) {
            return -1;
        }
        return machine.run(n);
    }

    public int size() {
        return machine.shown().length();
    }

    public int text(int i) {
        return machine.shown().at(i);
    }

    public int count(int what) {
        switch (what) {
            case 0:
                return machine.stepsDone();
            case 1:
                return machine.cellsMade();
            case 2:
                return machine.cellsReached();
            case 3:
                return machine.frameCells();
            case 4:
                return machine.frameCount();
            case 5:
                return machine.delaysWorked();
            case 6:
                return tape.length();
            default:
                return -1;
        }
    }

    /** A row of bytes that takes no more than its limit and remembers whether more came. */
    private static final class Bytes {
        private final byte[] row;
        private int length;
        private boolean over;

        Bytes(int limit) {
            row = new byte[limit > 0 ? limit : 0];
            length = 0;
            over = false;
        }

        int length() {
            return length;
        }

        boolean isOver() {
            return over;
        }

        int at(int i) {
            return i < 0 || i >= length || i >= row.length ? -1 : row[i] & 255;
        }

        void cut(int n) {
            if (n >= 0 && n <= length) {
                length = n;
                over = false;
            }
        }

        void add(int b) {
            if (length < 0 || length >= row.length) {
                over = true;
                return;
            }
            row[length] = (byte) b;
            length++;
        }

        void addFour(int bytes) {
            add(bytes >> 24);
            add(bytes >> 16);
            add(bytes >> 8);
            add(bytes);
        }

        void addLetters(String letters) {
            for (int i = 0; i < letters.length(); i++) {
                add(letters.charAt(i));
            }
        }

        void addPiece(Bytes from, int place, int many) {
            for (int i = 0; i < many; i++) {
                add(from.at(place + i));
            }
        }

        void addNumber(int number) {
            long rest = number;
            if (rest < 0) {
                add('-');
                rest = -rest;
            }
            long unit = 1;
            for (int i = 0; i < DIGITS_LIMIT && unit * 10 <= rest; i++) {
                unit *= 10;
            }
            for (; unit > 0; unit /= 10) {
                add('0' + (int) (rest / unit % 10));
            }
        }
    }

    /** Rows of ints, all of one width. Row 0 is always there, all 0, and stands for none. */
    private static final class Table {
        private final int width;
        private int[] cells;
        private int rows;

        Table(int width) {
            this.width = width > 0 && width <= NODE_WIDTH ? width : 1;
            cells = new int[this.width * 8];
            rows = 1;
        }

        int rows() {
            return rows;
        }

        void cut(int n) {
            if (n >= 1 && n <= rows) {
                rows = n;
            }
        }

        /** Answers the number of a new row of zeros; 0 if there can be no more. */
        int add() {
            int from = rows * width;
            int to = from + width;
            if (from < 0 || to > ROW_LIMIT) {
                return 0;
            }
            if (to > cells.length) {
                int[] longer = new int[to * 2];
                for (int i = 0; i < cells.length && i < longer.length; i++) {
                    longer[i] = cells[i];
                }
                cells = longer;
            }
            for (int i = from; i < to && i < cells.length; i++) {
                cells[i] = 0;
            }
            rows++;
            return rows - 1;
        }

        int get(int row, int field) {
            int i = row * width + field;
            if (row < 0 || row >= rows || field < 0 || field >= width || i < 0 || i >= cells.length) {
                return 0;
            }
            return cells[i];
        }

        void set(int row, int field, int value) {
            int i = row * width + field;
            if (row < 1 || row >= rows || field < 0 || field >= width || i < 0 || i >= cells.length) {
                return;
            }
            cells[i] = value;
        }
    }

    /** What a word of the machine is: a tag and a value. */
    private static final class Word {
        static long of(int tag, int value) {
            return ((long) tag << 32) | (value & 0xffffffffL);
        }

        static int tag(long word) {
            return (int) (word >> 32);
        }

        static int value(long word) {
            return (int) word;
        }
    }

    /** A row of words that is made longer when it is asked to fit more. */
    private static final class Words {
        private long[] row;

        Words() {
            row = new long[32];
        }

        void fit(int n) {
            if (n <= row.length || n > ROW_LIMIT) {
                return;
            }
            long[] longer = new long[n * 2];
            for (int i = 0; i < row.length && i < longer.length; i++) {
                longer[i] = row[i];
            }
            row = longer;
        }

        long get(int i) {
            return i < 0 || i >= row.length ? 0 : row[i];
        }

        void set(int i, long word) {
            if (i >= 0 && i < row.length) {
                row[i] = word;
            }
        }
    }

    /** What was read: the tables that the parser fills, the binder completes and the machine follows. */
    private static final class Program {
        private final Bytes letters;
        private int length;
        private final Table names;
        private final Table makers;
        private final Table definitions;
        private final Table scopes;
        private final Table variables;
        private final Table uses;
        private final Table nodes;
        private final Table frees;
        private int stamp;

        Program() {
            letters = new Bytes(TAPE_LIMIT + KNOWN_LETTERS.length());
            length = 0;
            names = new Table(4);
            makers = new Table(2);
            definitions = new Table(3);
            scopes = new Table(2);
            variables = new Table(3);
            uses = new Table(4);
            nodes = new Table(NODE_WIDTH);
            frees = new Table(1);
            stamp = 0;
        }

        /** Takes the tape's bytes. What every program knows is spelled behind them, so that all is found alike. */
        void load(Bytes tape) {
            clear();
            length = tape.length();
            letters.addPiece(tape, 0, length);
            letters.addLetters(KNOWN_LETTERS);
            spelled(names, length, 3);
            spelled(names, length + 3, 2);
            spelled(names, length + 5, 4);
            spelled(names, length + 9, 2);
            spelled(names, length + 11, 4);
            spelled(makers, length + 15, 4);
            spelled(makers, length + 19, 5);
        }

        private void clear() {
            letters.cut(0);
            names.cut(1);
            makers.cut(1);
            definitions.cut(1);
            scopes.cut(1);
            variables.cut(1);
            uses.cut(1);
            nodes.cut(1);
            frees.cut(1);
            stamp = 0;
        }

        /** Answers the row of names or makers that is spelled like this; a new one if there was none. */
        int spelled(Table table, int place, int many) {
            for (int row = 1; row < table.rows(); row++) {
                int other = table.get(row, SPELLED_AT);
                int same = table.get(row, SPELLED_LENGTH) == many ? 0 : many + 1;
                while (same < many && letters.at(other + same) == letters.at(place + same)) {
                    same++;
                }
                if (same == many) {
                    return row;
                }
            }
            int row = table.add();
            table.set(row, SPELLED_AT, place);
            table.set(row, SPELLED_LENGTH, many);
            return row;
        }

        /** Lists the variables that are free in a node, once for each node. */
        void gather(int node) {
            if (nodes.get(node, FREE_AT) != 0) {
                return;
            }
            stamp++;
            int at = frees.rows();
            int inner = nodes.get(node, VARIABLES_FROM);
            int outer = nodes.get(node, VARIABLES_TO);
            for (int use = nodes.get(node, USES_FROM); use < nodes.get(node, USES_TO); use++) {
                int variable = uses.get(use, USE_VARIABLE);
                boolean free = variable != 0 && (variable < inner || variable >= outer);
                if (free && variables.get(variable, VARIABLE_SEEN) != stamp) {
                    variables.set(variable, VARIABLE_SEEN, stamp);
                    frees.set(frees.add(), 0, variable);
                }
            }
            nodes.set(node, FREE_AT, at);
            nodes.set(node, FREE_LENGTH, frees.rows() - at);
        }

        /** Takes the latest list back, so that lists that are wanted once take no room for ever. */
        void forget(int node) {
            frees.cut(nodes.get(node, FREE_AT));
            nodes.set(node, FREE_AT, 0);
            nodes.set(node, FREE_LENGTH, 0);
        }

        int mainDefinition() {
            return names.get(MAIN_NAME, NAME_DEFINITION);
        }

        boolean hasParameters(int definition) {
            return definitions.get(definition, DEFINITION_LENGTH) > 0;
        }
    }

    /** Cuts the tape into words. When a word was refused there are none any more but bad ones. */
    private static final class Reader {
        private final Program program;
        private final Bytes letters;
        private int at;
        private int kind;
        private int place;
        private int value;
        private int refused;

        Reader(Program program) {
            this.program = program;
            letters = program.letters;
            at = 0;
            kind = TOKEN_END;
            place = 0;
            value = 0;
            refused = -1;
        }

        /** Goes to the first word. */
        void rewind() {
            at = 0;
            refused = -1;
            advance();
        }

        int kind() {
            return kind;
        }

        int place() {
            return place;
        }

        /** What a NUMBER is; which one a NAME or a MAKER is. */
        int value() {
            return value;
        }

        /** Where the first word that was refused stands, or -1. */
        int refused() {
            return refused;
        }

        void refuse() {
            if (refused < 0) {
                refused = place;
                kind = TOKEN_BAD;
            }
        }

        void advance() {
            if (refused >= 0) {
                return;
            }
            while (at < program.length && isBlank(letters.at(at))) {
                at++;
            }
            place = at;
            int first = letters.at(at);
            if (at >= program.length) {
                kind = TOKEN_END;
            } else if (isDigit(first)) {
                readNumber();
            } else if (isCapital(first)) {
                skipLetters();
                value = program.spelled(program.makers, place, at - place);
                kind = TOKEN_MAKER;
            } else if (isSmall(first)) {
                skipLetters();
                value = program.spelled(program.names, place, at - place);
                kind = value >= LET_NAME && value <= OF_NAME ? TOKEN_LET + value - LET_NAME : TOKEN_NAME;
            } else {
                readSign(first);
            }
        }

        private void readNumber() {
            value = 0;
            while (at < program.length && isDigit(letters.at(at))) {
                value = value * 10 + letters.at(at) - '0';
                at++;
            }
            kind = at - place > DIGITS_LIMIT ? TOKEN_BAD : TOKEN_NUMBER;
        }

        private void skipLetters() {
            while (at < program.length && isLetterOrDigit(letters.at(at))) {
                at++;
            }
        }

        private void readSign(int first) {
            at++;
            int second = at < program.length ? letters.at(at) : -1;
            if (first == '-' && second == '>') {
                at++;
                kind = TOKEN_ARROW;
            } else if (first == '=' && second == '=') {
                at++;
                kind = TOKEN_SAME;
            } else {
                kind = isSign(first) ? first : TOKEN_BAD;
            }
        }

        private static boolean isSign(int b) {
            switch (b) {
                case ';':
                case '=':
                case '\\':
                case '{':
                case '}':
                case '(':
                case ')':
                case '+':
                case '-':
                case '*':
                case '/':
                case '%':
                case '<':
                    return true;
                default:
                    return false;
            }
        }

        private static boolean isBlank(int b) {
            return b == ' ' || b == '\n';
        }

        private static boolean isDigit(int b) {
            return b >= '0' && b <= '9';
        }

        private static boolean isCapital(int b) {
            return b >= 'A' && b <= 'Z';
        }

        private static boolean isSmall(int b) {
            return b >= 'a' && b <= 'z';
        }

        private static boolean isLetterOrDigit(int b) {
            return b >= 'a' && b <= 'z' || b >= 'A' && b <= 'Z' || b >= '0' && b <= '9';
        }
    }

    /** Reads the words by the grammar into the program's tables. */
    private static final class Parser {
        private final Program program;
        private final Table nodes;
        private final Reader reader;

        Parser(Program program) {
            this.program = program;
            nodes = program.nodes;
            reader = new Reader(program);
        }

        /** Answers the place where the text is WRONG, or -1. */
        int parse() {
            Table definitions = program.definitions;
            reader.rewind();
            for (int i = 0; i < LOOP_LIMIT; i++) {
                int definition = openDefinition();
                int scope = openScope();
                definitions.set(definition, DEFINITION_VARIABLES, program.variables.rows());
                definitions.set(definition, DEFINITION_LENGTH, readNames(scope));
                expect('=');
                definitions.set(definition, DEFINITION_BODY, readExpression(0));
                closeScope(scope);
                expect(';');
                if (reader.refused() >= 0 || reader.kind() == TOKEN_END) {
                    break;
                }
            }
            return reader.refused();
        }

        private int openDefinition() {
            int name = reader.value();
            if (reader.kind() != TOKEN_NAME || program.names.get(name, NAME_DEFINITION) != 0) {
                reader.refuse();
                return 0;
            }
            int definition = program.definitions.add();
            program.names.set(name, NAME_DEFINITION, definition);
            reader.advance();
            return definition;
        }

        private int readExpression(int depth) {
            switch (reader.kind()) {
                case TOKEN_LET:
                    return readLet(depth);
                case '\\':
                    return readLambda(depth);
                case TOKEN_CASE:
                    return readCase(depth);
                default:
                    return readCompared(depth);
            }
        }

        private int readLet(int depth) {
            if (!mayOpen(depth)) {
                return 0;
            }
            int node = openNode(NODE_LET);
            int scope = openScope();
            int last = 0;
            for (int i = 0; i < LOOP_LIMIT && (i == 0 || reader.kind() == ';'); i++) {
                reader.advance();
                int bind = openNode(NODE_BIND);
                nodes.set(bind, VALUE, declare(scope));
                if (reader.kind() == TOKEN_NAME) {
                    nodes.set(bind, BODY, readFunction('=', depth + 1));
                } else {
                    expect('=');
                    nodes.set(bind, BODY, readExpression(depth + 1));
                }
                append(node, last, bind);
                last = bind;
            }
            expect(TOKEN_IN);
            nodes.set(node, BODY, readExpression(depth + 1));
            closeScope(scope);
            return closeNode(node);
        }

        private int readLambda(int depth) {
            if (!mayOpen(depth)) {
                return 0;
            }
            reader.advance();
            if (reader.kind() != TOKEN_NAME) {
                reader.refuse();
                return 0;
            }
            return readFunction(TOKEN_ARROW, depth + 1);
        }

        /** Reads what stands behind a \ , or behind a BIND's first NAME: the NAMES, a word, an EXPRESSION. */
        private int readFunction(int wordBehindNames, int depth) {
            int node = openNode(NODE_LAMBDA);
            int scope = openScope();
            nodes.set(node, VARIABLES, program.variables.rows());
            nodes.set(node, LENGTH, readNames(scope));
            expect(wordBehindNames);
            nodes.set(node, BODY, readExpression(depth));
            closeScope(scope);
            return closeNode(node);
        }

        private int readCase(int depth) {
            if (!mayOpen(depth)) {
                return 0;
            }
            int node = openNode(NODE_CASE);
            reader.advance();
            nodes.set(node, BODY, readExpression(depth + 1));
            expect(TOKEN_OF);
            if (reader.kind() != '{') {
                reader.refuse();
            }
            int choices = openNode(NODE_CHOICES);
            int last = 0;
            for (int i = 0; i < LOOP_LIMIT && (i == 0 || reader.kind() == ';'); i++) {
                reader.advance();
                int alternative = readAlternative(depth + 1);
                append(choices, last, alternative);
                last = alternative;
            }
            nodes.set(node, LIST, closeNode(choices));
            expect('}');
            return closeNode(node);
        }

        private int readAlternative(int depth) {
            int node = openNode(NODE_FOR_ANY);
            int scope = openScope();
            nodes.set(node, VARIABLES, program.variables.rows());
            switch (reader.kind()) {
                case TOKEN_NUMBER:
                    nodes.set(node, KIND, NODE_FOR_NUMBER);
                    nodes.set(node, VALUE, reader.value());
                    reader.advance();
                    break;
                case TOKEN_MAKER:
                    nodes.set(node, KIND, NODE_FOR_MAKER);
                    nodes.set(node, VALUE, reader.value());
                    reader.advance();
                    nodes.set(node, LENGTH, readNames(scope));
                    break;
                default:
                    declare(scope);
                    break;
            }
            expect(TOKEN_ARROW);
            nodes.set(node, BODY, readExpression(depth));
            closeScope(scope);
            return closeNode(node);
        }

        /** Reads all signs in one loop: what waits for its right side is a comparison's left, then a sum's left. */
        private int readCompared(int depth) {
            int compareSign = 0;
            int compareLeft = 0;
            int sumSign = 0;
            int sumLeft = 0;
            int product = readCall(depth);
            for (int i = 0; i < LOOP_LIMIT; i++) {
                int sign = reader.kind();
                if (sign == '*' || sign == '/' || sign == '%') {
                    reader.advance();
                    product = join(sign, product, readCall(depth));
                    continue;
                }
                boolean compares = (sign == TOKEN_SAME || sign == '<') && compareSign == 0;
                if (!compares && sign != '+' && sign != '-') {
                    break;
                }
                sumLeft = join(sumSign, sumLeft, product);
                sumSign = sign;
                if (compares) {
                    compareSign = sign;
                    compareLeft = sumLeft;
                    sumSign = 0;
                }
                reader.advance();
                product = readCall(depth);
            }
            return join(compareSign, compareLeft, join(sumSign, sumLeft, product));
        }

        /** A node of both sides; the right one alone, if there is no sign. */
        private int join(int sign, int left, int right) {
            if (sign == 0) {
                return right;
            }
            int node = openNode(NODE_SIGN);
            nodes.set(node, VALUE, sign);
            nodes.set(node, BODY, left);
            nodes.set(node, LIST, right);
            beginWith(node, left);
            return closeNode(node);
        }

        private int readCall(int depth) {
            boolean makes = reader.kind() == TOKEN_MAKER;
            int first = 0;
            int node = 0;
            int last = 0;
            for (int i = 0; i < LOOP_LIMIT && (i == 0 || beginsAtom()); i++) {
                int atom = 0;
                if (reader.kind() == '(') {
                    if (!mayOpen(depth)) {
                        return 0;
                    }
                    reader.advance();
                    atom = readExpression(depth + 1);
                    expect(')');
                } else {
                    atom = readSimple();
                }
                if (i == 0) {
                    first = atom;
                    continue;
                }
                if (i == 1) {
                    node = openCall(first, makes);
                }
                append(node, last, atom);
                last = atom;
            }
            return node == 0 ? first : closeNode(node);
        }

        private int openCall(int first, boolean makes) {
            int node = openNode(makes ? NODE_DATUM : NODE_CALL);
            beginWith(node, first);
            if (makes) {
                nodes.set(node, VALUE, nodes.get(first, VALUE));
            } else {
                nodes.set(node, BODY, first);
            }
            return node;
        }

        private boolean beginsAtom() {
            switch (reader.kind()) {
                case TOKEN_NAME:
                case TOKEN_MAKER:
                case TOKEN_NUMBER:
                case '(':
                    return true;
                default:
                    return false;
            }
        }

        private int readSimple() {
            int node = openNode(NODE_NUMBER);
            switch (reader.kind()) {
                case TOKEN_NUMBER:
                    nodes.set(node, VALUE, reader.value());
                    break;
                case TOKEN_MAKER:
                    nodes.set(node, KIND, NODE_MAKER);
                    nodes.set(node, VALUE, reader.value());
                    break;
                case TOKEN_NAME:
                    nodes.set(node, KIND, NODE_NAME);
                    addUse(node);
                    break;
                default:
                    reader.refuse();
                    return 0;
            }
            reader.advance();
            return closeNode(node);
        }

        private void addUse(int node) {
            int use = program.uses.add();
            program.uses.set(use, USE_NAME, reader.value());
            program.uses.set(use, USE_PLACE, reader.place());
            program.uses.set(use, USE_NODE, node);
        }

        private void expect(int kind) {
            if (reader.kind() == kind) {
                reader.advance();
            } else {
                reader.refuse();
            }
        }

        private boolean mayOpen(int depth) {
            if (depth >= NESTING_LIMIT) {
                reader.refuse();
                return false;
            }
            return true;
        }

        private int readNames(int scope) {
            int many = 0;
            while (many < LOOP_LIMIT && reader.kind() == TOKEN_NAME) {
                declare(scope);
                many++;
            }
            return many;
        }

        private int declare(int scope) {
            if (reader.kind() != TOKEN_NAME) {
                reader.refuse();
                return 0;
            }
            Table variables = program.variables;
            int name = reader.value();
            int before = program.names.get(name, NAME_VARIABLE);
            if (isIn(scope, before)) {
                reader.refuse();
                return 0;
            }
            int variable = variables.add();
            variables.set(variable, VARIABLE_SCOPE, scope);
            variables.set(variable, VARIABLE_BEFORE, before);
            program.names.set(name, NAME_VARIABLE, variable);
            reader.advance();
            return variable;
        }

        /** Is this variable, or one of the same name before it, of the scope? */
        private boolean isIn(int scope, int latest) {
            int variable = latest;
            for (int i = 0; i < LOOP_LIMIT && variable != 0; i++) {
                if (program.variables.get(variable, VARIABLE_SCOPE) == scope) {
                    return true;
                }
                variable = program.variables.get(variable, VARIABLE_BEFORE);
            }
            return false;
        }

        private int openScope() {
            int scope = program.scopes.add();
            program.scopes.set(scope, SCOPE_FROM, reader.place());
            return scope;
        }

        private void closeScope(int scope) {
            program.scopes.set(scope, SCOPE_TO, reader.place());
        }

        private int openNode(int kind) {
            int node = nodes.add();
            nodes.set(node, KIND, kind);
            nodes.set(node, USES_FROM, program.uses.rows());
            nodes.set(node, VARIABLES_FROM, program.variables.rows());
            return node;
        }

        /** The node begins where its first part, which was read before it, begins. */
        private void beginWith(int node, int first) {
            nodes.set(node, USES_FROM, nodes.get(first, USES_FROM));
            nodes.set(node, VARIABLES_FROM, nodes.get(first, VARIABLES_FROM));
        }

        private int closeNode(int node) {
            nodes.set(node, USES_TO, program.uses.rows());
            nodes.set(node, VARIABLES_TO, program.variables.rows());
            return node;
        }

        private void append(int list, int last, int node) {
            if (last == 0) {
                nodes.set(list, LIST, node);
            } else {
                nodes.set(last, NEXT, node);
            }
            nodes.set(list, LENGTH, nodes.get(list, LENGTH) + 1);
        }
    }

    /** Finds what binds each name, and tells beforehand what each expression makes and captures. */
    private static final class Binder {
        private final Program program;
        private final Table nodes;

        Binder(Program program) {
            this.program = program;
            nodes = program.nodes;
        }

        /** Answers the place where the text is WRONG, or -1. */
        int bind() {
            for (int use = 1; use < program.uses.rows(); use++) {
                if (!bindUse(use)) {
                    return program.uses.get(use, USE_PLACE);
                }
            }
            if (program.mainDefinition() == 0 || program.hasParameters(program.mainDefinition())) {
                return program.length;
            }
            for (int node = 1; node < nodes.rows(); node++) {
                prepare(node);
            }
            return -1;
        }

        private boolean bindUse(int use) {
            int node = program.uses.get(use, USE_NODE);
            int name = program.uses.get(use, USE_NAME);
            int variable = innermost(name, program.uses.get(use, USE_PLACE));
            if (variable != 0) {
                program.uses.set(use, USE_VARIABLE, variable);
                nodes.set(node, KIND, NODE_VARIABLE);
                nodes.set(node, VALUE, variable);
                return true;
            }
            int definition = program.names.get(name, NAME_DEFINITION);
            nodes.set(node, KIND, NODE_DEFINED);
            nodes.set(node, VALUE, definition);
            return definition != 0;
        }

        /** Scopes around a place lie in one another, and an inner one was opened later, so has the higher number. */
        private int innermost(int name, int place) {
            int found = 0;
            int foundScope = 0;
            int variable = program.names.get(name, NAME_VARIABLE);
            for (int i = 0; i < LOOP_LIMIT && variable != 0; i++) {
                int scope = program.variables.get(variable, VARIABLE_SCOPE);
                boolean around = program.scopes.get(scope, SCOPE_FROM) <= place
                    && place < program.scopes.get(scope, SCOPE_TO);
                if (around && scope > foundScope) {
                    found = variable;
                    foundScope = scope;
                }
                variable = program.variables.get(variable, VARIABLE_BEFORE);
            }
            return found;
        }

        private void prepare(int node) {
            int list = nodes.get(node, LIST);
            switch (nodes.get(node, KIND)) {
                case NODE_LAMBDA:
                    nodes.set(node, FORM, FORM_FUNCTION);
                    nodes.set(node, OBJECT_COST, cellsOf(node));
                    break;
                case NODE_DATUM:
                    nodes.set(node, OBJECT_COST, OBJECT_CELLS + nodes.get(node, LENGTH) + prepareList(node));
                    break;
                case NODE_CALL:
                    nodes.set(node, OBJECT_COST, prepareList(node));
                    nodes.set(node, FRAME_COST, FRAME_CELLS + nodes.get(node, LENGTH));
                    break;
                case NODE_LET:
                    nodes.set(node, OBJECT_COST, prepareList(node));
                    break;
                case NODE_CASE:
                case NODE_SIGN:
                    program.gather(list);
                    nodes.set(node, FRAME_COST, FRAME_CELLS + nodes.get(list, FREE_LENGTH));
                    break;
                default:
                    break;
            }
        }

        /** Tells each of a list what is made of it; answers how many cells all that takes. */
        private int prepareList(int node) {
            int cells = 0;
            int part = nodes.get(node, LIST);
            for (int i = 0; i < nodes.get(node, LENGTH); i++) {
                boolean binds = nodes.get(part, KIND) == NODE_BIND;
                int expression = binds ? nodes.get(part, BODY) : part;
                int form = formOf(expression);
                if (binds && form == FORM_SIMPLE) {
                    form = FORM_DELAY;
                }
                nodes.set(expression, FORM, form);
                cells += cellsOf(expression);
                part = nodes.get(part, NEXT);
            }
            return cells;
        }

        private int formOf(int node) {
            if (isSimple(node)) {
                return FORM_SIMPLE;
            }
            int kind = nodes.get(node, KIND);
            if (kind == NODE_LAMBDA) {
                return FORM_FUNCTION;
            }
            return kind == NODE_DATUM && hasSimpleFields(node) ? FORM_DATUM : FORM_DELAY;
        }

        private boolean isSimple(int node) {
            int kind = nodes.get(node, KIND);
            return kind == NODE_VARIABLE || kind == NODE_DEFINED || kind == NODE_NUMBER || kind == NODE_MAKER;
        }

        private boolean hasSimpleFields(int node) {
            int field = nodes.get(node, LIST);
            for (int i = 0; i < nodes.get(node, LENGTH); i++) {
                if (!isSimple(field)) {
                    return false;
                }
                field = nodes.get(field, NEXT);
            }
            return true;
        }

        private int cellsOf(int node) {
            switch (nodes.get(node, FORM)) {
                case FORM_SIMPLE:
                    return 0;
                case FORM_DATUM:
                    return OBJECT_CELLS + nodes.get(node, LENGTH);
                default:
                    program.gather(node);
                    return OBJECT_CELLS + nodes.get(node, FREE_LENGTH);
            }
        }
    }

    /** Objects, each of two cells and its words. The first cell tells what it is; the second is its link. */
    private static final class Heap {
        private Words cells;
        private Words spare;
        private int limit;
        private int used;
        private int made;

        Heap() {
            cells = new Words();
            spare = new Words();
            limit = 0;
            used = 0;
            made = 0;
        }

        void clear(int newLimit) {
            limit = newLimit;
            used = 0;
            made = 0;
        }

        int used() {
            return used;
        }

        int made() {
            return made;
        }

        boolean hasRoom(int many) {
            return many <= limit - used;
        }

        int make(int kind, int about, int slots) {
            int place = used;
            used += OBJECT_CELLS + slots;
            made += OBJECT_CELLS + slots;
            cells.fit(used);
            cells.set(place, header(kind, about, slots));
            cells.set(place + 1, 0);
            return place;
        }

        private static long header(int kind, int about, int slots) {
            return ((long) about << 32) | ((long) slots << 8) | kind;
        }

        /** The node of a DELAY or a FUNCTION, the maker of a DATUM. */
        int about(int place) {
            return (int) (cells.get(place) >> 32);
        }

        int slots(int place) {
            return slotsOf(cells.get(place));
        }

        private static int slotsOf(long header) {
            return (int) ((header >> 8) & 0xffffff);
        }

        long slot(int place, int i) {
            return cells.get(place + OBJECT_CELLS + i);
        }

        void setSlot(int place, int i, long word) {
            cells.set(place + OBJECT_CELLS + i, word);
        }

        /** What kind of object the word is the place of; OBJECT_NONE if it is none. */
        int kindOf(long word) {
            return Word.tag(word) == WORD_OBJECT ? (int) (cells.get(Word.value(word)) & 255) : OBJECT_NONE;
        }

        void makeBusy(int place) {
            cells.set(place, header(OBJECT_BUSY, 0, 0));
        }

        void makeDone(int place, long word) {
            cells.set(place, header(OBJECT_DONE, 0, 0));
            cells.set(place + 1, word);
        }

        long doneBy(int place) {
            return cells.get(place + 1);
        }

        /** From here to the end of finishMove() what is kept moves to the other row, and the rest is gone. */
        void beginMove() {
            Words from = cells;
            cells = spare;
            spare = from;
            used = 0;
        }

        /** Moves the object, if it has not moved yet; answers the word that stands for this one now. */
        long keep(long word) {
            long kept = word;
            // Twice at most: no DELAY is ever DONE by a DELAY.
            for (int i = 0; i < 2 && Word.tag(kept) == WORD_OBJECT; i++) {
                int place = Word.value(kept);
                int kind = (int) (spare.get(place) & 255);
                if (kind != OBJECT_DONE) {
                    return kind == OBJECT_MOVED ? spare.get(place + 1) : move(place);
                }
                kept = spare.get(place + 1);
            }
            return kept;
        }

        private long move(int from) {
            int length = OBJECT_CELLS + slotsOf(spare.get(from));
            int to = used;
            used += length;
            cells.fit(used);
            for (int i = 0; i < length; i++) {
                cells.set(to + i, spare.get(from + i));
            }
            long moved = Word.of(WORD_OBJECT, to);
            spare.set(from, header(OBJECT_MOVED, 0, 0));
            spare.set(from + 1, moved);
            return moved;
        }

        /** Keeps what the objects have that were kept. Every object is two cells at least, so this ends. */
        void finishMove() {
            int place = 0;
            for (int i = 0; i < LOOP_LIMIT && place < used; i++) {
                int slots = slotsOf(cells.get(place));
                for (int j = 0; j < slots; j++) {
                    cells.set(place + OBJECT_CELLS + j, keep(cells.get(place + OBJECT_CELLS + j)));
                }
                place += OBJECT_CELLS + slots;
            }
        }
    }

    /** Frames: of each first its words, then what it is about, then its kind and how many words it has. */
    private static final class Stack {
        private final Words cells;
        private int used;
        private int frames;
        private int first;

        Stack() {
            cells = new Words();
            clear();
        }

        void clear() {
            used = 0;
            frames = 0;
            first = 0;
        }

        int used() {
            return used;
        }

        int frames() {
            return frames;
        }

        /** What describes a frame stands there as numbers, so that all cells can be kept alike. */
        void push(int kind, int about, int slots) {
            first = used;
            used += slots + FRAME_CELLS;
            frames++;
            cells.fit(used);
            cells.set(used - 2, Word.of(WORD_NUMBER, about));
            cells.set(used - 1, Word.of(WORD_NUMBER, slots << 8 | kind));
        }

        int kind() {
            return used < FRAME_CELLS ? FRAME_NONE : Word.value(cells.get(used - 1)) & 255;
        }

        int about() {
            return used < FRAME_CELLS ? 0 : Word.value(cells.get(used - 2));
        }

        int slots() {
            return used < FRAME_CELLS ? 0 : used - FRAME_CELLS - first;
        }

        long slot(int i) {
            return cells.get(first + i);
        }

        void setSlot(int i, long word) {
            cells.set(first + i, word);
        }

        void pop() {
            if (used < FRAME_CELLS) {
                return;
            }
            used = first;
            frames--;
            first = used < FRAME_CELLS ? 0 : used - FRAME_CELLS - (Word.value(cells.get(used - 1)) >> 8);
        }

        /** The latest frame keeps the last ones of its words alone. */
        void keepLast(int many) {
            int from = first + slots() - many;
            int kind = kind();
            int about = about();
            used = first;
            frames--;
            for (int i = 0; i < many; i++) {
                cells.set(first + i, cells.get(from + i));
            }
            push(kind, about, many);
        }

        void keepAll(Heap heap) {
            for (int i = 0; i < used; i++) {
                cells.set(i, heap.keep(cells.get(i)));
            }
        }
    }

    /** The machine of steps. Of what it is at, mode tells which of node and word counts. */
    private static final class Machine {
        private final Program program;
        private final Table nodes;
        private final Table frees;
        private final Heap heap;
        private final Stack stack;
        private final Bytes shown;
        private final Words environment;
        private final Words globals;
        private int mode;
        private int node;
        private long word;
        private int error;
        private int steps;
        private int worked;

        Machine(Program program) {
            this.program = program;
            nodes = program.nodes;
            frees = program.frees;
            heap = new Heap();
            stack = new Stack();
            shown = new Bytes(TEXT_LIMIT);
            environment = new Words();
            globals = new Words();
            mode = MODE_NONE;
        }

        boolean exists() {
            return mode != MODE_NONE;
        }

        Bytes shown() {
            return shown;
        }

        int stepsDone() {
            return steps;
        }

        int cellsMade() {
            return heap.made();
        }

        int frameCells() {
            return stack.used();
        }

        int frameCount() {
            return stack.frames();
        }

        int delaysWorked() {
            return worked;
        }

        /** What is kept in the heap, when all that can't be reached is gone, is what can be reached. */
        int cellsReached() {
            collect();
            return heap.used();
        }

        void remove() {
            clear(0);
            mode = MODE_NONE;
        }

        private void clear(int heapSize) {
            heap.clear(heapSize);
            stack.clear();
            shown.cut(0);
            node = 0;
            word = 0;
            error = 0;
            steps = 0;
            worked = 0;
        }

        void begin(int heapSize) {
            clear(heapSize);
            environment.fit(program.variables.rows());
            globals.fit(program.definitions.rows());
            for (int i = 0; i < program.definitions.rows(); i++) {
                globals.set(i, Word.of(WORD_FRESH, 0));
            }
            stack.push(FRAME_SHOW, 0, 0);
            enterNext(Word.of(WORD_DEFINITION, program.mainDefinition()));
        }

        /** Does so many steps, or as many as there are; answers as step(n) does. */
        int run(int many) {
            for (int i = 0; i < many && isRunning(); i++) {
                steps++;
                if (!fits(frameCellsWanted(), objectCellsWanted())) {
                    break;
                }
                if (mode == MODE_EVALUATE) {
                    evaluate();
                } else if (mode == MODE_ENTER) {
                    enter();
                } else {
                    give();
                }
            }
            if (mode == MODE_FAILED) {
                return 10 + error;
            }
            return mode == MODE_OVER ? 1 : 0;
        }

        private boolean isRunning() {
            return mode == MODE_EVALUATE || mode == MODE_ENTER || mode == MODE_GIVE;
        }

        private void evaluateNext(int next) {
            mode = MODE_EVALUATE;
            node = next;
        }

        private void enterNext(long next) {
            mode = MODE_ENTER;
            word = next;
        }

        private void giveNext(long next) {
            mode = MODE_GIVE;
            word = next;
        }

        private void fail(int number) {
            mode = MODE_FAILED;
            error = number;
            stack.clear();
        }

        /** How many cells more the frames take behind the next step. What a SHOW does is looked at behind it. */
        private int frameCellsWanted() {
            if (mode == MODE_EVALUATE) {
                return nodes.get(node, FRAME_COST);
            }
            if (mode == MODE_ENTER) {
                return isFresh() ? FRAME_CELLS + 1 : 0;
            }
            // A RIGHT has one word, and may be one cell more than the LEFT that goes.
            boolean turns = stack.kind() == FRAME_LEFT && Word.tag(word) == WORD_NUMBER;
            return turns ? 1 - stack.slots() : 0;
        }

        /** How many cells the next step makes. */
        private int objectCellsWanted() {
            if (mode == MODE_EVALUATE) {
                return nodes.get(node, OBJECT_COST);
            }
            if (mode == MODE_ENTER || stack.kind() != FRAME_CALL) {
                return 0;
            }
            int all = wordsHeld() + stack.slots();
            return all < parametersOf(called()) ? OBJECT_CELLS + 1 + all : 0;
        }

        /** Is the word a DELAY that nothing was done with yet? */
        private boolean isFresh() {
            if (Word.tag(word) != WORD_DEFINITION) {
                return heap.kindOf(word) == OBJECT_DELAY;
            }
            int definition = Word.value(word);
            return !program.hasParameters(definition) && Word.tag(globals.get(definition)) == WORD_FRESH;
        }

        /** Is there room for so many cells more of frames, and of objects? If not, the machine fails. */
        private boolean fits(int frameCells, int objectCells) {
            if (stack.used() + frameCells > FRAMES_LIMIT) {
                fail(ERROR_FRAMES);
                return false;
            }
            if (heap.hasRoom(objectCells)) {
                return true;
            }
            collect();
            if (heap.hasRoom(objectCells)) {
                return true;
            }
            fail(ERROR_HEAP);
            return false;
        }

        private void collect() {
            heap.beginMove();
            stack.keepAll(heap);
            if (mode == MODE_EVALUATE) {
                keepEnvironment();
            } else if (mode == MODE_ENTER || mode == MODE_GIVE) {
                word = heap.keep(word);
            }
            if (mode != MODE_NONE) {
                for (int i = 1; i < program.definitions.rows(); i++) {
                    globals.set(i, heap.keep(globals.get(i)));
                }
            }
            heap.finishMove();
        }

        private void keepEnvironment() {
            boolean listed = nodes.get(node, FREE_AT) != 0;
            program.gather(node);
            int at = nodes.get(node, FREE_AT);
            for (int i = 0; i < nodes.get(node, FREE_LENGTH); i++) {
                int variable = frees.get(at + i, 0);
                environment.set(variable, heap.keep(environment.get(variable)));
            }
            if (!listed) {
                program.forget(node);
            }
        }

        private void evaluate() {
            switch (nodes.get(node, KIND)) {
                case NODE_VARIABLE:
                case NODE_DEFINED:
                    enterNext(simpleWord(node));
                    break;
                case NODE_NUMBER:
                case NODE_MAKER:
                    giveNext(simpleWord(node));
                    break;
                case NODE_LAMBDA:
                    giveNext(makeInPlace(node));
                    break;
                case NODE_DATUM:
                    evaluateDatum();
                    break;
                case NODE_CALL:
                    evaluateCall();
                    break;
                case NODE_LET:
                    evaluateLet();
                    break;
                case NODE_CASE:
                    pushCapturing(FRAME_CHOICE, nodes.get(node, LIST), nodes.get(node, LIST));
                    break;
                default:
                    pushCapturing(FRAME_LEFT, node, nodes.get(node, LIST));
                    break;
            }
        }

        private long simpleWord(int simple) {
            int value = nodes.get(simple, VALUE);
            switch (nodes.get(simple, KIND)) {
                case NODE_VARIABLE:
                    return environment.get(value);
                case NODE_DEFINED:
                    return Word.of(WORD_DEFINITION, value);
                case NODE_MAKER:
                    return Word.of(WORD_MAKER, value);
                default:
                    return Word.of(WORD_NUMBER, value);
            }
        }

        private void evaluateDatum() {
            int many = nodes.get(node, LENGTH);
            int place = heap.make(OBJECT_DATUM, nodes.get(node, VALUE), many);
            int field = nodes.get(node, LIST);
            for (int i = 0; i < many; i++) {
                heap.setSlot(place, i, makeInPlace(field));
                field = nodes.get(field, NEXT);
            }
            giveNext(Word.of(WORD_OBJECT, place));
        }

        private void evaluateCall() {
            int many = nodes.get(node, LENGTH);
            stack.push(FRAME_CALL, 0, many);
            int argument = nodes.get(node, LIST);
            for (int i = 0; i < many; i++) {
                stack.setSlot(i, makeInPlace(argument));
                argument = nodes.get(argument, NEXT);
            }
            evaluateNext(nodes.get(node, BODY));
        }

        /** All objects are there before any is filled, because each may have the places of all. */
        private void evaluateLet() {
            int many = nodes.get(node, LENGTH);
            int bind = nodes.get(node, LIST);
            for (int i = 0; i < many; i++) {
                int place = makeEmpty(nodes.get(bind, BODY));
                environment.set(nodes.get(bind, VALUE), Word.of(WORD_OBJECT, place));
                bind = nodes.get(bind, NEXT);
            }
            bind = nodes.get(node, LIST);
            for (int i = 0; i < many; i++) {
                fill(Word.value(environment.get(nodes.get(bind, VALUE))), nodes.get(bind, BODY));
                bind = nodes.get(bind, NEXT);
            }
            evaluateNext(nodes.get(node, BODY));
        }

        /** A CHOICE or a LEFT comes with what is free in a node; what is evaluated first is the BODY of both. */
        private void pushCapturing(int kind, int about, int captured) {
            int many = nodes.get(captured, FREE_LENGTH);
            int at = nodes.get(captured, FREE_AT);
            stack.push(kind, about, many);
            for (int i = 0; i < many; i++) {
                stack.setSlot(i, environment.get(frees.get(at + i, 0)));
            }
            evaluateNext(nodes.get(node, BODY));
        }

        private long makeInPlace(int expression) {
            if (nodes.get(expression, FORM) == FORM_SIMPLE) {
                return simpleWord(expression);
            }
            int place = makeEmpty(expression);
            fill(place, expression);
            return Word.of(WORD_OBJECT, place);
        }

        private int makeEmpty(int expression) {
            switch (nodes.get(expression, FORM)) {
                case FORM_DATUM:
                    return heap.make(OBJECT_DATUM, nodes.get(expression, VALUE), nodes.get(expression, LENGTH));
                case FORM_FUNCTION:
                    return heap.make(OBJECT_FUNCTION, expression, nodes.get(expression, FREE_LENGTH));
                default:
                    return heap.make(OBJECT_DELAY, expression, nodes.get(expression, FREE_LENGTH));
            }
        }

        /** A DATUM gets its fields' words, another object those of what is free in it. */
        private void fill(int place, int expression) {
            if (nodes.get(expression, FORM) == FORM_DATUM) {
                int field = nodes.get(expression, LIST);
                for (int i = 0; i < nodes.get(expression, LENGTH); i++) {
                    heap.setSlot(place, i, simpleWord(field));
                    field = nodes.get(field, NEXT);
                }
                return;
            }
            int at = nodes.get(expression, FREE_AT);
            for (int i = 0; i < nodes.get(expression, FREE_LENGTH); i++) {
                heap.setSlot(place, i, environment.get(frees.get(at + i, 0)));
            }
        }

        /** The words that an object captured are those of the environment again. */
        private void release(int place, int expression) {
            int at = nodes.get(expression, FREE_AT);
            for (int i = 0; i < nodes.get(expression, FREE_LENGTH); i++) {
                environment.set(frees.get(at + i, 0), heap.slot(place, i));
            }
        }

        private void releaseFrame(int captured) {
            int at = nodes.get(captured, FREE_AT);
            for (int i = 0; i < nodes.get(captured, FREE_LENGTH); i++) {
                environment.set(frees.get(at + i, 0), stack.slot(i));
            }
        }

        private void enter() {
            if (Word.tag(word) == WORD_DEFINITION) {
                enterDefinition(Word.value(word));
                return;
            }
            int place = Word.value(word);
            switch (heap.kindOf(word)) {
                case OBJECT_BUSY:
                    fail(ERROR_BUSY);
                    break;
                case OBJECT_DONE:
                    giveNext(heap.doneBy(place));
                    break;
                case OBJECT_DELAY:
                    pushUpdate();
                    release(place, heap.about(place));
                    evaluateNext(heap.about(place));
                    heap.makeBusy(place);
                    break;
                default:
                    giveNext(word);
                    break;
            }
        }

        private void enterDefinition(int definition) {
            if (program.hasParameters(definition)) {
                giveNext(word);
                return;
            }
            long state = globals.get(definition);
            switch (Word.tag(state)) {
                case WORD_BUSY:
                    fail(ERROR_BUSY);
                    break;
                case WORD_FRESH:
                    pushUpdate();
                    globals.set(definition, Word.of(WORD_BUSY, 0));
                    evaluateNext(program.definitions.get(definition, DEFINITION_BODY));
                    break;
                default:
                    giveNext(state);
                    break;
            }
        }

        private void pushUpdate() {
            stack.push(FRAME_UPDATE, 0, 1);
            stack.setSlot(0, word);
            worked++;
        }

        private void give() {
            switch (stack.kind()) {
                case FRAME_UPDATE:
                    giveToUpdate();
                    break;
                case FRAME_CHOICE:
                    giveToChoice();
                    break;
                case FRAME_LEFT:
                    giveToLeft();
                    break;
                case FRAME_RIGHT:
                    giveToRight();
                    break;
                case FRAME_CALL:
                    giveToCall();
                    break;
                case FRAME_SHOW:
                    giveToShow();
                    break;
                default:
                    mode = MODE_OVER;
                    break;
            }
        }

        private void giveToUpdate() {
            long delay = stack.slot(0);
            stack.pop();
            if (Word.tag(delay) == WORD_DEFINITION) {
                globals.set(Word.value(delay), word);
            } else {
                heap.makeDone(Word.value(delay), word);
            }
        }

        private void giveToChoice() {
            int choices = stack.about();
            int alternative = findAlternative(choices);
            if (alternative == 0) {
                fail(ERROR_NO_ALTERNATIVE);
                return;
            }
            releaseFrame(choices);
            stack.pop();
            int first = nodes.get(alternative, VARIABLES);
            if (nodes.get(alternative, KIND) == NODE_FOR_ANY) {
                environment.set(first, word);
            }
            for (int i = 0; i < nodes.get(alternative, LENGTH); i++) {
                environment.set(first + i, heap.slot(Word.value(word), i));
            }
            evaluateNext(nodes.get(alternative, BODY));
        }

        private int findAlternative(int choices) {
            boolean datum = heap.kindOf(word) == OBJECT_DATUM;
            int fields = datum ? heap.slots(Word.value(word)) : 0;
            long maker = datum ? Word.of(WORD_MAKER, heap.about(Word.value(word))) : word;
            int alternative = nodes.get(choices, LIST);
            for (int i = 0; i < nodes.get(choices, LENGTH); i++) {
                if (isFor(alternative, maker, fields)) {
                    return alternative;
                }
                alternative = nodes.get(alternative, NEXT);
            }
            return 0;
        }

        /** Is the alternative for such a number, or for such a maker with so many fields? */
        private boolean isFor(int alternative, long wanted, int fields) {
            int value = nodes.get(alternative, VALUE);
            switch (nodes.get(alternative, KIND)) {
                case NODE_FOR_ANY:
                    return true;
                case NODE_FOR_NUMBER:
                    return wanted == Word.of(WORD_NUMBER, value);
                default:
                    return wanted == Word.of(WORD_MAKER, value) && fields == nodes.get(alternative, LENGTH);
            }
        }

        private void giveToLeft() {
            if (Word.tag(word) != WORD_NUMBER) {
                fail(ERROR_NO_NUMBER);
                return;
            }
            int sign = stack.about();
            int right = nodes.get(sign, LIST);
            releaseFrame(right);
            stack.pop();
            stack.push(FRAME_RIGHT, nodes.get(sign, VALUE), 1);
            stack.setSlot(0, word);
            evaluateNext(right);
        }

        private void giveToRight() {
            if (Word.tag(word) != WORD_NUMBER) {
                fail(ERROR_NO_NUMBER);
                return;
            }
            int sign = stack.about();
            int left = Word.value(stack.slot(0));
            int right = Word.value(word);
            if (right == 0 && (sign == '/' || sign == '%')) {
                fail(ERROR_ZERO);
                return;
            }
            stack.pop();
            if (sign == TOKEN_SAME) {
                giveNext(truth(left == right));
            } else if (sign == '<') {
                giveNext(truth(left < right));
            } else {
                giveNext(Word.of(WORD_NUMBER, reckon(sign, left, right)));
            }
        }

        private static long truth(boolean holds) {
            return Word.of(WORD_MAKER, holds ? TRUE_MAKER : FALSE_MAKER);
        }

        private static int reckon(int sign, int left, int right) {
            switch (sign) {
                case '+':
                    return left + right;
                case '-':
                    return left - right;
                case '*':
                    return left * right;
                case '/':
                    return right == 0 ? 0 : left / right;
                default:
                    return right == 0 ? 0 : left % right;
            }
        }

        private void giveToCall() {
            int wanted = parametersOf(called());
            if (wanted == 0) {
                fail(ERROR_NO_FUNCTION);
                return;
            }
            int held = wordsHeld();
            int others = held + stack.slots() - wanted;
            if (others < 0) {
                makePart(held, held + stack.slots());
                return;
            }
            bindParameters(called(), wanted, held);
            if (others > 0) {
                stack.keepLast(others);
            } else {
                stack.pop();
            }
        }

        /** What the word calls: of a PART what it is a part of. */
        private long called() {
            return heap.kindOf(word) == OBJECT_PART ? heap.slot(Word.value(word), 0) : word;
        }

        /** How many words the word has as a PART. */
        private int wordsHeld() {
            return heap.kindOf(word) == OBJECT_PART ? heap.slots(Word.value(word)) - 1 : 0;
        }

        /** How many words it takes; 0 if it can't be called. */
        private int parametersOf(long called) {
            if (Word.tag(called) == WORD_DEFINITION) {
                return program.definitions.get(Word.value(called), DEFINITION_LENGTH);
            }
            return heap.kindOf(called) == OBJECT_FUNCTION ? nodes.get(heap.about(Word.value(called)), LENGTH) : 0;
        }

        private void makePart(int held, int all) {
            int place = heap.make(OBJECT_PART, 0, 1 + all);
            heap.setSlot(place, 0, called());
            for (int i = 0; i < all; i++) {
                heap.setSlot(place, 1 + i, argument(held, i));
            }
            stack.pop();
            giveNext(Word.of(WORD_OBJECT, place));
        }

        /** Of the words that a PART holds, and those of the CALL behind them, the one at i. */
        private long argument(int held, int i) {
            return i < held ? heap.slot(Word.value(word), 1 + i) : stack.slot(i - held);
        }

        private void bindParameters(long called, int wanted, int held) {
            int value = Word.value(called);
            boolean defined = Word.tag(called) == WORD_DEFINITION;
            int lambda = defined ? 0 : heap.about(value);
            int first = defined
                ? program.definitions.get(value, DEFINITION_VARIABLES)
                : nodes.get(lambda, VARIABLES);
            if (!defined) {
                release(value, lambda);
            }
            for (int i = 0; i < wanted; i++) {
                environment.set(first + i, argument(held, i));
            }
            evaluateNext(defined ? program.definitions.get(value, DEFINITION_BODY) : nodes.get(lambda, BODY));
        }

        private void giveToShow() {
            int within = stack.about();
            stack.pop();
            if (heap.kindOf(word) == OBJECT_DATUM) {
                if (within != 0) {
                    shown.add('(');
                }
                showMaker(heap.about(Word.value(word)));
                stack.push(FRAME_REST, within, 2);
                stack.setSlot(0, word);
                stack.setSlot(1, Word.of(WORD_NUMBER, 0));
            } else if (Word.tag(word) == WORD_NUMBER) {
                shown.addNumber(Word.value(word));
            } else if (Word.tag(word) == WORD_MAKER) {
                showMaker(Word.value(word));
            } else {
                shown.add('?');
            }
            showNext();
            if (shown.isOver()) {
                fail(ERROR_TEXT);
            } else if (stack.used() > FRAMES_LIMIT) {
                fail(ERROR_FRAMES);
            }
        }

        private void showMaker(int maker) {
            int place = program.makers.get(maker, SPELLED_AT);
            shown.addPiece(program.letters, place, program.makers.get(maker, SPELLED_LENGTH));
        }

        /** Every DATUM whose fields are all shown goes; then the next field of the latest one is entered. */
        private void showNext() {
            mode = MODE_OVER;
            for (int i = 0; i < FRAMES_LIMIT && stack.kind() == FRAME_REST; i++) {
                int place = Word.value(stack.slot(0));
                int field = Word.value(stack.slot(1));
                if (field < heap.slots(place)) {
                    shown.add(' ');
                    stack.setSlot(1, Word.of(WORD_NUMBER, field + 1));
                    stack.push(FRAME_SHOW, 1, 0);
                    enterNext(heap.slot(place, field));
                    return;
                }
                if (stack.about() != 0) {
                    shown.add(')');
                }
                stack.pop();
            }
        }
    }
}
