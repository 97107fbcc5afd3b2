/**
 * Runs features that are written in a small language. A source is typed in, judged and, if it is a feature, kept;
 * a run goes through the kept feature once for each row of its data and keeps what came of each iteration.
 *
 * Everything that a call needs is made in the constructor and used again, so that no call makes an object.
 */
public final class SpecRunner {
    public static final int BAD = -1;

    /** The longest source. It bounds the tokens, the instructions and the turns of every loop over them. */
    private static final int SOURCE = 120;
    /** Statements have a separator between them, so that two characters are the least for one. */
    private static final int STATEMENTS = SOURCE / 2 + 1;
    /** The shortest part is like "E:1". */
    private static final int PARTS = SOURCE / 3 + 2;
    /** The shortest rule is like "1*M(_)". */
    private static final int RULES = SOURCE / 6 + 2;
    private static final int ROWS = 6;
    private static final int COLUMNS = 4;
    private static final int DEEPEST = 4;
    private static final int LETTERS = 26;
    private static final int UNBOUNDED = Integer.MAX_VALUE;

    private static final String OTHER_CHARACTERS = " GWTECDMNOX()+-*/%<>=!&|,;:_";

    // The kinds of tokens. A capital or a single sign is its own kind, so these keep clear of the characters' codes.
    private static final int END = 256;
    private static final int NO_TOKEN = 257;
    private static final int NUMBER = 258;
    private static final int VARIABLE = 259;
    private static final int EQUAL = 260;
    private static final int UNEQUAL = 261;
    private static final int AT_MOST = 262;
    private static final int AT_LEAST = 263;
    private static final int BOTH = 264;
    private static final int EITHER = 265;
    private static final int ANSWERING = 266;

    // The levels of operators, from the loosest to the tightest.
    private static final int OR_LEVEL = 0;
    private static final int AND_LEVEL = 1;
    private static final int COMPARISON_LEVEL = 2;
    private static final int SUM_LEVEL = 3;
    private static final int PRODUCT_LEVEL = 4;
    private static final int NO_LEVEL = -1;

    // The kinds of instructions.
    private static final int PUSH = 0;
    private static final int LOAD = 1;
    private static final int NEGATE = 2;
    private static final int INVERT = 3;
    private static final int CALL = 4;
    private static final int OLD = 5;
    private static final int UNLESS_DECIDED = 6;
    private static final int OPERATE = 7;

    // The kinds of statements; those of steps come first.
    private static final int GIVEN = 0;
    private static final int WHEN = 1;
    private static final int CLEANUP = 2;
    private static final int EXPECT = 3;
    private static final int CLAIM = 4;
    private static final int CLAIM_THROWN = 5;
    private static final int CLAIM_CALM = 6;
    private static final int RULE = 7;
    private static final int CELL = 8;

    // How the argument of a rule fits.
    private static final int FITS_ANY = 0;
    private static final int FITS_SAME = 1;
    private static final int FITS_ANOTHER = 2;

    // How an iteration fails.
    private static final int UNTRUE = 1;
    private static final int MISCALLED = 2;
    private static final int THROWN = 3;

    private final char[] source = new char[SOURCE];
    private final Checker checker = new Checker();
    private final Outcome[] outcomes = new Outcome[ROWS];
    private final Parser parser;
    private final Runner runner;
    private int length;
    private Feature draft;
    private Feature feature;
    private boolean featureKept;
    private int toldPlace = -1;
    private int iterated;

    public SpecRunner() {
        for (int k = 0; k < ROWS; k++) {
            outcomes[k] = new Outcome();
        }
        draft = new Feature();
        feature = new Feature();
        parser = new Parser(draft);
        runner = new Runner(feature, outcomes[0]);
    }

    public boolean type(long chars, int n) {
        if (n < 1 || n > 8 || length + n > SOURCE) {
            return false;
        }
        for (int i = 0; i < n; i++) {
            if (!mayBeTyped(characterOf(chars, n - 1 - i))) {
                return false;
            }
        }
        for (int i = 0; i < n && length < SOURCE; i++) {
            source[length] = characterOf(chars, n - 1 - i);
            length++;
        }
        return true;
    }

    public void clear() {
        length = 0;
    }

    public int judge() {
        int wrong = parser.read(source, length, draft);
        if (wrong >= 0) {
            toldPlace = wrong;
            return 1;
        }
        checker.check(draft);
        if (checker.verdict != 0) {
            toldPlace = checker.where;
            return checker.verdict;
        }
        toldPlace = -1;
        Feature spare = feature;
        feature = draft;
        draft = spare;
        featureKept = true;
        return 0;
    }

    public int place() {
        return toldPlace;
    }

    public int run() {
        if (!featureKept) {
            return BAD;
        }
        iterated = feature.rows == 0 ? 1 : Math.min(feature.rows, ROWS);
        int failed = 0;
        for (int k = 0; k < iterated && k < ROWS; k++) {
            runner.iterate(feature, k, outcomes[k]);
            if (outcomes[k].status != 0) {
                failed++;
            }
        }
        return failed;
    }

    public int iterations() {
        return iterated;
    }

    public int status(int k) {
        return isIteration(k) ? outcomes[k].status : BAD;
    }

    public int failedAt(int k) {
        return isIteration(k) ? outcomes[k].failedAt : -1;
    }

    public boolean second(int k) {
        return isIteration(k) && outcomes[k].failedAgain;
    }

    public int variable(int k, int v) {
        return isIteration(k) ? pick(outcomes[k].variables, v) : 0;
    }

    public int calls(int k, int m) {
        return isIteration(k) ? pick(outcomes[k].called, m) : 0;
    }

    public int values(int k) {
        return isIteration(k) ? outcomes[k].drawing.size : 0;
    }

    public int column(int k, int j) {
        return isIteration(k) ? outcomes[k].drawing.columnOf(j) : -1;
    }

    public int value(int k, int j) {
        return isIteration(k) ? outcomes[k].drawing.valueOf(j) : 0;
    }

    public int lines(int k) {
        return isIteration(k) ? outcomes[k].drawing.height : 0;
    }

    public int drawn(int k, int line, int column) {
        return isIteration(k) ? outcomes[k].drawing.characterAt(line, column) : 0;
    }

    private boolean isIteration(int k) {
        return k >= 0 && k < iterated && k < ROWS;
    }

    private static char characterOf(long chars, int bytesBehind) {
        return (char) (chars >>> (8 * bytesBehind) & 255);
    }

    private static boolean mayBeTyped(char c) {
        return isSmallLetter(c) || isDigit(c) || OTHER_CHARACTERS.indexOf(c) >= 0;
    }

    private static boolean isSmallLetter(char c) {
        return c >= 'a' && c <= 'z';
    }

    private static boolean isDigit(char c) {
        return c >= '0' && c <= '9';
    }

    /** The element, or 0 where the row has none: rows are read through this, so that no index is ever out of range. */
    private static int pick(int[] row, int i) {
        return i >= 0 && i < row.length ? row[i] : 0;
    }

    private static void put(int[] row, int i, int value) {
        if (i >= 0 && i < row.length) {
            row[i] = value;
        }
    }

    private static int truth(boolean holds) {
        return holds ? 1 : 0;
    }

    private static int levelOf(int token) {
        switch (token) {
            case EITHER:
                return OR_LEVEL;
            case BOTH:
                return AND_LEVEL;
            case EQUAL:
            case UNEQUAL:
            case AT_MOST:
            case AT_LEAST:
            case '<':
            case '>':
                return COMPARISON_LEVEL;
            case '+':
            case '-':
                return SUM_LEVEL;
            case '*':
            case '/':
            case '%':
                return PRODUCT_LEVEL;
            default:
                return NO_LEVEL;
        }
    }

    /** The tokens of a source. What belongs to no token is kept as one of a kind that the grammar never takes. */
    private static final class Tokens {
        private final int[] kinds = new int[SOURCE];
        private final int[] starts = new int[SOURCE];
        private final int[] ends = new int[SOURCE];
        private final int[] numbers = new int[SOURCE];
        private int size;
        private int length;

        void read(char[] text, int textLength) {
            size = 0;
            length = Math.min(textLength, text.length);
            int next = 0;
            for (int turn = 0; turn < SOURCE && next < length; turn++) {
                next = addFrom(text, next);
            }
        }

        int kindAt(int i) {
            return i >= 0 && i < size && i < SOURCE ? kinds[i] : END;
        }

        int placeOf(int i) {
            return i >= 0 && i < size && i < SOURCE ? starts[i] : length;
        }

        int endOf(int i) {
            return i >= 0 && i < size && i < SOURCE ? ends[i] : 0;
        }

        int numberOf(int i) {
            return i >= 0 && i < size && i < SOURCE ? numbers[i] : 0;
        }

        /** Adds the token that begins at a place, if it is no space, and answers where to go on. */
        private int addFrom(char[] text, int start) {
            char c = characterAt(text, start);
            if (c == ' ') {
                return start + 1;
            }
            if (isDigit(c)) {
                return addNumber(text, start);
            }
            int pair = pairOf(c, characterAt(text, start + 1));
            if (pair != NO_TOKEN) {
                return add(pair, start, start + 2, 0);
            }
            if (isSmallLetter(c)) {
                return add(VARIABLE, start, start + 1, c - 'a');
            }
            return add(c == '&' ? NO_TOKEN : (int) c, start, start + 1, 0);
        }

        private int addNumber(char[] text, int start) {
            int end = start;
            int number = 0;
            for (int i = start; i < length && isDigit(characterAt(text, i)); i++) {
                number = number * 10 + (characterAt(text, i) - '0');
                end = i + 1;
            }
            return add(end - start > 4 ? NO_TOKEN : NUMBER, start, end, number);
        }

        private int add(int kind, int start, int end, int number) {
            if (size < SOURCE) {
                kinds[size] = kind;
                starts[size] = start;
                ends[size] = end;
                numbers[size] = number;
                size++;
            }
            return end;
        }

        private char characterAt(char[] text, int i) {
            return i >= 0 && i < length && i < text.length ? text[i] : ' ';
        }

        private static int pairOf(char first, char next) {
            if (next == '=') {
                switch (first) {
                    case '=':
                        return EQUAL;
                    case '!':
                        return UNEQUAL;
                    case '<':
                        return AT_MOST;
                    case '>':
                        return AT_LEAST;
                    default:
                        return NO_TOKEN;
                }
            }
            if (first != next) {
                return NO_TOKEN;
            }
            return first == '&' ? BOTH : first == '|' ? EITHER : first == '>' ? ANSWERING : NO_TOKEN;
        }
    }

    /**
     * The expressions as instructions for a stack: a long chain of operators is then a loop and no recursion. Jumps
     * go forward alone.
     */
    private static final class Code {
        private final int[] kinds = new int[SOURCE];
        private final int[] details = new int[SOURCE];
        private final int[] targets = new int[SOURCE];
        private final int[] places = new int[SOURCE];
        private int size;

        /** Answers which instruction it is. */
        int add(int kind, int detail, int place) {
            if (size < SOURCE) {
                kinds[size] = kind;
                details[size] = detail;
                targets[size] = size + 1;
                places[size] = place;
                size++;
            }
            return size - 1;
        }

        /** Lets an instruction jump to what will be added next. */
        void aim(int i) {
            put(targets, i, Math.max(i + 1, size));
        }
    }

    /** The steps, expressions, claims and cells of a feature, in the source's order. */
    private static final class Statements {
        private final int[] kinds = new int[STATEMENTS];
        private final int[] places = new int[STATEMENTS];
        private final int[] ends = new int[STATEMENTS];
        private final int[] codeFrom = new int[STATEMENTS];
        private final int[] codeTo = new int[STATEMENTS];
        /** The variable that a step assigns (-1: none), the number of a rule, or the column of a cell. */
        private final int[] details = new int[STATEMENTS];
        private int size;

        /** Answers which statement it is. */
        int open(int kind, int place, int code) {
            if (size < STATEMENTS) {
                kinds[size] = kind;
                places[size] = place;
                codeFrom[size] = code;
                codeTo[size] = code;
                details[size] = -1;
                size++;
            }
            return size - 1;
        }

        void close(int s, int end, int code) {
            put(ends, s, end);
            put(codeTo, s, code);
        }

        int kindOf(int s) {
            return s >= 0 && s < size && s < STATEMENTS ? kinds[s] : -1;
        }

        int placeOf(int s) {
            return s >= 0 && s < size && s < STATEMENTS ? places[s] : -1;
        }
    }

    /** What the stand-ins have to be called with, how often, and what they answer. */
    private static final class Rules {
        private final int[] least = new int[RULES];
        private final int[] most = new int[RULES];
        private final int[] callees = new int[RULES];
        private final int[] fits = new int[RULES];
        private final int[] arguments = new int[RULES];
        private final int[] answersFrom = new int[RULES];
        private final int[] answersTo = new int[RULES];
        private final int[] answers = new int[STATEMENTS];
        private int size;
        private int answersSize;

        /** Answers which rule it is. */
        int add(int leastCalls, int mostCalls) {
            if (size < RULES) {
                least[size] = leastCalls;
                most[size] = mostCalls;
                answersFrom[size] = answersSize;
                answersTo[size] = answersSize;
                size++;
            }
            return size - 1;
        }

        void aim(int r, int callee, int fit, int argument) {
            put(callees, r, callee);
            put(fits, r, fit);
            put(arguments, r, argument);
        }

        void addAnswer(int r, int answer) {
            if (answersSize < STATEMENTS) {
                answers[answersSize] = answer;
                answersSize++;
                put(answersTo, r, answersSize);
            }
        }

        boolean isFor(int r, int callee, int argument) {
            if (r < 0 || r >= size || r >= RULES || callees[r] != callee) {
                return false;
            }
            return fits[r] == FITS_ANY || (fits[r] == FITS_SAME) == (arguments[r] == argument);
        }

        /** The answer for a call, counted from 1. */
        int answerFor(int r, int call) {
            if (r < 0 || r >= size || r >= RULES || answersFrom[r] >= answersTo[r]) {
                return 0;
            }
            int i = answersFrom[r] + call <= answersTo[r] ? answersFrom[r] + call - 1 : answersTo[r] - 1;
            return i >= 0 && i < STATEMENTS ? answers[i] : 0;
        }
    }

    /** A source that has been read. It keeps its text, since the typed one may change before a run draws it. */
    private static final class Feature {
        private final char[] text = new char[SOURCE];
        private final Code code = new Code();
        private final Statements statements = new Statements();
        private final Rules rules = new Rules();
        /** The first statement of each part and, behind the last part, the first statement that is in none. */
        private final int[] partStarts = new int[PARTS];
        private final int[] rowStarts = new int[STATEMENTS];
        private final int[] header = new int[STATEMENTS];
        private final int[] headerPlaces = new int[STATEMENTS];
        private int parts;
        private int rows;
        private int columns;

        void begin(char[] from, int length) {
            System.arraycopy(from, 0, text, 0, Math.max(0, Math.min(length, Math.min(from.length, SOURCE))));
            code.size = 0;
            statements.size = 0;
            rules.size = 0;
            rules.answersSize = 0;
            parts = 0;
            rows = 0;
            columns = 0;
            partStarts[0] = 0;
        }

        void openPart() {
            put(partStarts, parts, statements.size);
        }

        void closePart() {
            if (parts < PARTS - 1) {
                parts++;
                put(partStarts, parts, statements.size);
            }
        }

        void addColumn(int letter, int place) {
            if (columns < STATEMENTS) {
                header[columns] = letter;
                headerPlaces[columns] = place;
                columns++;
            }
        }

        void addRow() {
            if (rows < STATEMENTS) {
                rowStarts[rows] = statements.size;
                rows++;
            }
        }

        int rowEnd(int row) {
            return row + 1 < rows ? pick(rowStarts, row + 1) : statements.size;
        }
    }

    /**
     * Reads a source by the grammar. The first thing that is wrong is kept and takes the reader to the end of the
     * tokens, where nothing more can be taken: so the methods need not look whether one of them went wrong.
     */
    private static final class Parser {
        private final Tokens tokens = new Tokens();
        private Feature feature;
        private int now;
        private int wrong;
        private boolean oldAllowed;

        Parser(Feature first) {
            feature = first;
        }

        /** Answers the place where the source can't go on to be a feature; -1 when it is one. */
        int read(char[] text, int length, Feature into) {
            feature = into;
            feature.begin(text, length);
            tokens.read(text, length);
            now = 0;
            wrong = -1;
            if (take('G')) {
                block(GIVEN);
            }
            part();
            for (int turn = 0; turn < SOURCE && (next() == 'E' || next() == 'W'); turn++) {
                part();
            }
            if (take('C')) {
                block(CLEANUP);
            }
            if (take('D')) {
                where();
            }
            if (next() != END) {
                fail();
            }
            return wrong;
        }

        private void part() {
            feature.openPart();
            if (take('E')) {
                block(EXPECT);
            } else {
                need('W');
                block(WHEN);
                need('T');
                block(CLAIM);
            }
            feature.closePart();
        }

        private void block(int kind) {
            need(':');
            statement(kind);
            for (int turn = 0; turn < SOURCE && take(';'); turn++) {
                statement(kind);
            }
        }

        private void statement(int kind) {
            Statements statements = feature.statements;
            int s = statements.open(kind, tokens.placeOf(now), feature.code.size);
            oldAllowed = kind == CLAIM;
            if (kind == CLAIM && take('X')) {
                put(statements.kinds, s, CLAIM_THROWN);
            } else if (kind == CLAIM && next() == '!' && tokens.kindAt(now + 1) == 'X') {
                now += 2;
                put(statements.kinds, s, CLAIM_CALM);
            } else if (kind == CLAIM && ruleIsNext()) {
                put(statements.kinds, s, RULE);
                put(statements.details, s, rule());
            } else {
                if (kind <= CLEANUP && next() == VARIABLE && tokens.kindAt(now + 1) == '=') {
                    put(statements.details, s, tokens.numberOf(now));
                    now += 2;
                }
                chain(OR_LEVEL, 0);
            }
            statements.close(s, tokens.endOf(now - 1), feature.code.size);
        }

        private boolean ruleIsNext() {
            if (next() != NUMBER) {
                return false;
            }
            int star = now + 1;
            if (tokens.kindAt(star) == '-') {
                if (tokens.kindAt(now + 2) == '_') {
                    // Nothing but a rule goes on like this, even if what follows is wrong.
                    return true;
                }
                if (tokens.kindAt(now + 2) != NUMBER) {
                    return false;
                }
                star = now + 3;
            }
            int callee = tokens.kindAt(star + 1);
            return tokens.kindAt(star) == '*' && (callee == 'M' || callee == 'N');
        }

        /** Answers which rule it is. */
        private int rule() {
            Rules rules = feature.rules;
            int least = number();
            int most = least;
            if (take('-')) {
                most = take('_') ? UNBOUNDED : number();
            }
            int r = rules.add(least, most);
            need('*');
            int callee = next() == 'N' ? 1 : 0;
            need(callee == 1 ? 'N' : 'M');
            need('(');
            int fit = take('_') ? FITS_ANY : take('!') ? FITS_ANOTHER : FITS_SAME;
            rules.aim(r, callee, fit, fit == FITS_ANY ? 0 : number());
            need(')');
            boolean more = take(ANSWERING);
            for (int turn = 0; turn < SOURCE && more; turn++) {
                int sign = take('-') ? -1 : 1;
                rules.addAnswer(r, sign * number());
                more = take(',');
            }
            return r;
        }

        private void where() {
            need(':');
            boolean more = true;
            for (int turn = 0; turn < SOURCE && more; turn++) {
                feature.addColumn(tokens.numberOf(now), tokens.placeOf(now));
                need(VARIABLE);
                more = takeBar();
            }
            need(';');
            row();
            for (int turn = 0; turn < SOURCE && take(';'); turn++) {
                row();
            }
        }

        private void row() {
            Statements statements = feature.statements;
            feature.addRow();
            oldAllowed = false;
            boolean more = true;
            for (int turn = 0; turn < SOURCE && more; turn++) {
                int s = statements.open(CELL, tokens.placeOf(now), feature.code.size);
                put(statements.details, s, turn);
                chain(SUM_LEVEL, 0);
                statements.close(s, tokens.endOf(now - 1), feature.code.size);
                more = takeBar();
            }
        }

        /** Operands of a level with the level's operators between them; the depth is that of signs and parentheses. */
        private void chain(int level, int depth) {
            if (level > PRODUCT_LEVEL) {
                unary(depth);
                return;
            }
            chain(level + 1, depth);
            int most = level == COMPARISON_LEVEL ? 1 : SOURCE;
            for (int turn = 0; turn < most && levelOf(next()) == level; turn++) {
                int operator = next();
                int place = tokens.placeOf(now);
                now++;
                boolean mayDecide = level <= AND_LEVEL;
                int test = mayDecide ? feature.code.add(UNLESS_DECIDED, operator, place) : -1;
                chain(level + 1, depth);
                feature.code.add(OPERATE, operator, place);
                if (mayDecide) {
                    feature.code.aim(test);
                }
            }
        }

        private void unary(int depth) {
            int sign = next();
            if (sign != '-' && sign != '!') {
                atom(depth);
            } else if (depth >= DEEPEST) {
                fail();
            } else {
                int place = tokens.placeOf(now);
                now++;
                unary(depth + 1);
                feature.code.add(sign == '-' ? NEGATE : INVERT, 0, place);
            }
        }

        private void atom(int depth) {
            int place = tokens.placeOf(now);
            int first = next();
            if (first == NUMBER) {
                feature.code.add(PUSH, number(), place);
            } else if (first == VARIABLE) {
                feature.code.add(LOAD, tokens.numberOf(now), place);
                now++;
            } else if (first == 'M' || first == 'N') {
                now++;
                group(depth);
                feature.code.add(CALL, first == 'N' ? 1 : 0, place);
            } else if (first == 'O' && oldAllowed) {
                now++;
                int old = feature.code.add(OLD, 0, place);
                oldAllowed = false;
                group(depth);
                oldAllowed = true;
                feature.code.aim(old);
            } else {
                group(depth);
            }
        }

        private void group(int depth) {
            if (next() != '(' || depth >= DEEPEST) {
                fail();
                return;
            }
            now++;
            chain(OR_LEVEL, depth + 1);
            need(')');
        }

        private int number() {
            if (tokens.kindAt(now) != NUMBER) {
                fail();
                return 0;
            }
            now++;
            return tokens.numberOf(now - 1);
        }

        private boolean takeBar() {
            return take('|') || take(EITHER);
        }

        private boolean take(int kind) {
            if (tokens.kindAt(now) != kind) {
                return false;
            }
            now++;
            return true;
        }

        private void need(int kind) {
            if (tokens.kindAt(now) != kind) {
                fail();
            } else {
                now++;
            }
        }

        private int next() {
            return tokens.kindAt(now);
        }

        private void fail() {
            if (wrong < 0) {
                wrong = now >= 0 && now < tokens.size && now < SOURCE ? tokens.starts[now] : tokens.length;
            }
            now = tokens.size;
        }
    }

    /** Looks for what is wrong in a source that keeps to the grammar, and keeps the first of it by place. */
    private static final class Checker {
        /** For each letter its column in the header; -1 when it is no data variable. */
        private final int[] columns = new int[LETTERS];
        private final int[] assigned = new int[LETTERS];
        private int verdict;
        private int where;

        void check(Feature feature) {
            verdict = 0;
            where = -1;
            for (int v = 0; v < LETTERS; v++) {
                columns[v] = -1;
                assigned[v] = 0;
            }
            checkHeader(feature);
            for (int s = 0; s < feature.statements.size; s++) {
                checkStatement(feature, s);
            }
            for (int row = 0; row < feature.rows; row++) {
                checkRow(feature, row);
            }
        }

        private void checkHeader(Feature feature) {
            for (int c = 0; c < feature.columns; c++) {
                int letter = pick(feature.header, c);
                int place = pick(feature.headerPlaces, c);
                if (pick(columns, letter) >= 0) {
                    tell(3, place);
                } else {
                    put(columns, letter, c);
                }
                if (c == COLUMNS) {
                    tell(4, place);
                }
            }
        }

        private void checkStatement(Feature feature, int s) {
            Statements statements = feature.statements;
            int kind = statements.kindOf(s);
            int detail = pick(statements.details, s);
            if (kind == RULE) {
                if (pick(feature.rules.most, detail) < pick(feature.rules.least, detail)) {
                    tell(5, statements.placeOf(s));
                }
                return;
            }
            int end = pick(statements.codeTo, s);
            for (int i = pick(statements.codeFrom, s); i < end; i++) {
                int letter = pick(feature.code.details, i);
                boolean known = kind == CELL ? isLeftOf(letter, detail) : isKnown(letter);
                if (pick(feature.code.kinds, i) == LOAD && !known) {
                    tell(2, pick(feature.code.places, i));
                }
            }
            if (kind <= CLEANUP && detail >= 0) {
                if (pick(columns, detail) >= 0) {
                    tell(3, statements.placeOf(s));
                }
                put(assigned, detail, 1);
            }
        }

        private void checkRow(Feature feature, int row) {
            int first = pick(feature.rowStarts, row);
            if (feature.rowEnd(row) - first != feature.columns || row == ROWS) {
                tell(4, feature.statements.placeOf(first));
            }
        }

        private boolean isLeftOf(int letter, int column) {
            return pick(columns, letter) >= 0 && pick(columns, letter) < column;
        }

        private boolean isKnown(int letter) {
            return pick(columns, letter) >= 0 || pick(assigned, letter) != 0;
        }

        private void tell(int number, int place) {
            if (verdict == 0 || place < where || place == where && number < verdict) {
                verdict = number;
                where = place;
            }
        }
    }

    /** Evaluates expressions, answers the calls in them, and notes the values for the drawing by their places. */
    private static final class Evaluator {
        private final int[] stack = new int[SOURCE];
        private final int[] noted = new int[SOURCE];
        private final int[] notes = new int[SOURCE];
        /** What an O gave, by its instruction. */
        private final int[] oldValues = new int[SOURCE];
        private final int[] ruleCalls = new int[RULES];
        private Feature feature;
        private Outcome outcome;
        private int top;
        private int forceFrom;
        private int forceTo;
        private int result;
        /** What cut the latest evaluation short: THROWN, MISCALLED, or 0 when nothing did. */
        private int trouble;
        private int troublePlace;

        Evaluator(Feature firstFeature, Outcome firstOutcome) {
            feature = firstFeature;
            outcome = firstOutcome;
        }

        void begin(Feature nextFeature, Outcome nextOutcome) {
            feature = nextFeature;
            outcome = nextOutcome;
            release();
        }

        /** Puts the rules among some statements in force, with no calls yet. */
        void enforce(int from, int to) {
            forceFrom = from;
            forceTo = to;
            for (int r = 0; r < RULES; r++) {
                ruleCalls[r] = 0;
            }
        }

        /** Ends the force of the rules; how often they were called is kept. */
        void release() {
            forceFrom = 0;
            forceTo = 0;
        }

        void forgetNotes() {
            for (int i = 0; i < SOURCE; i++) {
                noted[i] = 0;
            }
        }

        /** Leaves the value in result; false when there was trouble. */
        boolean evaluate(int from, int to) {
            top = 0;
            trouble = 0;
            int next = from;
            for (int turn = 0; turn < SOURCE && next < to && trouble == 0; turn++) {
                next = perform(next);
            }
            result = pop();
            return trouble == 0;
        }

        /** Answers which instruction comes next. */
        private int perform(int i) {
            Code code = feature.code;
            int detail = pick(code.details, i);
            int place = pick(code.places, i);
            switch (pick(code.kinds, i)) {
                case PUSH:
                    push(detail);
                    break;
                case LOAD:
                    note(place, pick(outcome.variables, detail));
                    break;
                case NEGATE:
                    note(place, -pop());
                    break;
                case INVERT:
                    note(place, truth(pop() == 0));
                    break;
                case CALL:
                    note(place, answer(detail, pop(), place));
                    break;
                case OLD:
                    note(place, pick(oldValues, i));
                    return pick(code.targets, i);
                case UNLESS_DECIDED:
                    if (isDecided(detail, pick(stack, top - 1))) {
                        note(place, truth(pop() != 0));
                        return pick(code.targets, i);
                    }
                    break;
                default:
                    int right = pop();
                    note(place, operate(detail, pop(), right, place));
                    break;
            }
            return i + 1;
        }

        private static boolean isDecided(int operator, int first) {
            return (operator == EITHER) == (first != 0);
        }

        private int operate(int operator, int left, int right, int place) {
            switch (operator) {
                case '+':
                    return left + right;
                case '-':
                    return left - right;
                case '*':
                    return left * right;
                case '/':
                case '%':
                    if (right == 0) {
                        stop(THROWN, place);
                        return 0;
                    }
                    return operator == '/' ? left / right : left % right;
                case '<':
                    return truth(left < right);
                case '>':
                    return truth(left > right);
                case AT_MOST:
                    return truth(left <= right);
                case AT_LEAST:
                    return truth(left >= right);
                case EQUAL:
                    return truth(left == right);
                case UNEQUAL:
                    return truth(left != right);
                default:
                    // The second side of && or ||, which the first one left to decide.
                    return truth(right != 0);
            }
        }

        private int answer(int callee, int argument, int place) {
            put(outcome.called, callee, pick(outcome.called, callee) + 1);
            boolean ruled = false;
            for (int s = forceFrom; s < forceTo; s++) {
                int r = feature.statements.kindOf(s) == RULE ? pick(feature.statements.details, s) : -1;
                if (feature.rules.isFor(r, callee, argument)) {
                    ruled = true;
                    if (pick(ruleCalls, r) < pick(feature.rules.most, r)) {
                        put(ruleCalls, r, pick(ruleCalls, r) + 1);
                        return feature.rules.answerFor(r, pick(ruleCalls, r));
                    }
                }
            }
            if (ruled) {
                stop(MISCALLED, place);
            }
            return 0;
        }

        private void stop(int kind, int place) {
            trouble = kind;
            troublePlace = place;
        }

        private void note(int place, int value) {
            put(noted, place, 1);
            put(notes, place, value);
            push(value);
        }

        private void push(int value) {
            if (top >= 0 && top < SOURCE) {
                stack[top] = value;
                top++;
            }
        }

        private int pop() {
            if (top <= 0 || top > SOURCE) {
                return 0;
            }
            top--;
            return stack[top];
        }
    }

    /** Goes through the blocks of a feature, once for an iteration. */
    private static final class Runner {
        private final Evaluator evaluator;
        private Feature feature;
        private Outcome outcome;

        Runner(Feature firstFeature, Outcome firstOutcome) {
            feature = firstFeature;
            outcome = firstOutcome;
            evaluator = new Evaluator(firstFeature, firstOutcome);
        }

        void iterate(Feature nextFeature, int row, Outcome nextOutcome) {
            feature = nextFeature;
            outcome = nextOutcome;
            outcome.begin();
            evaluator.begin(feature, outcome);
            if (!fill(row)) {
                return;
            }
            boolean fine = steps(GIVEN, 0, pick(feature.partStarts, 0)) || lose();
            for (int p = 0; p < feature.parts && fine; p++) {
                int from = pick(feature.partStarts, p);
                int to = pick(feature.partStarts, p + 1);
                fine = feature.statements.kindOf(from) == WHEN ? whenAndThen(from, to) : expect(from, to);
            }
            if (!steps(CLEANUP, pick(feature.partStarts, feature.parts), feature.statements.size)) {
                lose();
            }
        }

        /** Gives the data variables their values of a row. */
        private boolean fill(int row) {
            if (row >= feature.rows) {
                return true;
            }
            Statements statements = feature.statements;
            for (int c = 0; c < feature.columns; c++) {
                int s = pick(feature.rowStarts, row) + c;
                if (!evaluator.evaluate(pick(statements.codeFrom, s), pick(statements.codeTo, s))) {
                    return lose();
                }
                put(outcome.variables, pick(feature.header, c), evaluator.result);
            }
            return true;
        }

        /** Does the steps of a kind among some statements, until one has trouble. */
        private boolean steps(int kind, int from, int to) {
            Statements statements = feature.statements;
            for (int s = from; s < to; s++) {
                if (statements.kindOf(s) == kind) {
                    if (!evaluator.evaluate(pick(statements.codeFrom, s), pick(statements.codeTo, s))) {
                        return false;
                    }
                    put(outcome.variables, pick(statements.details, s), evaluator.result);
                }
            }
            return true;
        }

        private boolean expect(int from, int to) {
            for (int s = from; s < to; s++) {
                if (!holds(s)) {
                    return false;
                }
            }
            return true;
        }

        private boolean whenAndThen(int from, int to) {
            if (!remember(from, to)) {
                return lose();
            }
            evaluator.enforce(from, to);
            boolean calm = steps(WHEN, from, to);
            evaluator.release();
            // A refused call is a failure at once and nothing that X could find.
            if (!calm && (evaluator.trouble != THROWN || !has(CLAIM_THROWN, from, to))) {
                return lose();
            }
            for (int s = from; s < to; s++) {
                boolean fine = feature.statements.kindOf(s) == CLAIM ? holds(s) : suits(s, calm);
                if (!fine) {
                    return false;
                }
            }
            return rulesAreMet(from, to);
        }

        /** Evaluates the O's of a THEN, before its WHEN changes what they are about. */
        private boolean remember(int from, int to) {
            Code code = feature.code;
            int codeTo = pick(feature.statements.codeTo, to - 1);
            for (int i = pick(feature.statements.codeFrom, from); i < codeTo; i++) {
                if (pick(code.kinds, i) == OLD) {
                    if (!evaluator.evaluate(i + 1, pick(code.targets, i))) {
                        return false;
                    }
                    put(evaluator.oldValues, i, evaluator.result);
                }
            }
            return true;
        }

        private boolean has(int kind, int from, int to) {
            for (int s = from; s < to; s++) {
                if (feature.statements.kindOf(s) == kind) {
                    return true;
                }
            }
            return false;
        }

        /** Whether X or ! X, if the statement is one, finds what it has to. */
        private boolean suits(int s, boolean calm) {
            int kind = feature.statements.kindOf(s);
            if (kind == (calm ? CLAIM_THROWN : CLAIM_CALM)) {
                outcome.fail(UNTRUE, feature.statements.placeOf(s));
                return false;
            }
            return true;
        }

        private boolean holds(int s) {
            evaluator.forgetNotes();
            if (!evaluator.evaluate(pick(feature.statements.codeFrom, s), pick(feature.statements.codeTo, s))) {
                return lose();
            }
            if (evaluator.result != 0) {
                return true;
            }
            int place = feature.statements.placeOf(s);
            outcome.fail(UNTRUE, place);
            outcome.drawing.write(feature.text, place, pick(feature.statements.ends, s));
            outcome.drawing.addValues(evaluator.noted, evaluator.notes, place);
            return false;
        }

        private boolean rulesAreMet(int from, int to) {
            for (int s = from; s < to; s++) {
                int r = pick(feature.statements.details, s);
                boolean met = pick(evaluator.ruleCalls, r) >= pick(feature.rules.least, r);
                if (feature.statements.kindOf(s) == RULE && !met) {
                    outcome.fail(MISCALLED, feature.statements.placeOf(s));
                    return false;
                }
            }
            return true;
        }

        /** Fails the iteration with the trouble of the latest evaluation; always false. */
        private boolean lose() {
            outcome.fail(evaluator.trouble, evaluator.troublePlace);
            return false;
        }
    }

    /** What came of an iteration. */
    private static final class Outcome {
        private final int[] variables = new int[LETTERS];
        private final int[] called = new int[2];
        private final Drawing drawing = new Drawing();
        private int status;
        private int failedAt = -1;
        private boolean failedAgain;

        void begin() {
            for (int v = 0; v < LETTERS; v++) {
                variables[v] = 0;
            }
            called[0] = 0;
            called[1] = 0;
            drawing.erase();
            status = 0;
            failedAt = -1;
            failedAgain = false;
        }

        void fail(int kind, int place) {
            if (status != 0) {
                failedAgain = true;
                return;
            }
            status = kind;
            failedAt = place;
        }
    }

    /** The drawing of an expression that was not true: its text, its values, and the line in which each one stands. */
    private static final class Drawing {
        private final char[] text = new char[SOURCE];
        private final int[] columns = new int[SOURCE];
        private final int[] shown = new int[SOURCE];
        private final int[] rows = new int[SOURCE];
        private int width;
        private int size;
        private int height;

        void erase() {
            width = 0;
            size = 0;
            height = 0;
        }

        void write(char[] from, int start, int end) {
            erase();
            height = 1;
            for (int i = Math.max(0, start); i < end && i < from.length && width < SOURCE; i++) {
                text[width] = from[i];
                width++;
            }
        }

        /** Adds what was noted within the text, which begins at a place of the source. */
        void addValues(int[] noted, int[] notes, int start) {
            for (int c = 0; c < width; c++) {
                if (pick(noted, start + c) != 0 && size < SOURCE) {
                    columns[size] = c;
                    shown[size] = pick(notes, start + c);
                    size++;
                }
            }
            layOut();
        }

        int columnOf(int j) {
            return j >= 0 && j < size && j < SOURCE ? columns[j] : -1;
        }

        int valueOf(int j) {
            return j >= 0 && j < size && j < SOURCE ? shown[j] : 0;
        }

        int characterAt(int line, int column) {
            if (line < 0 || line >= height || column < 0) {
                return 0;
            }
            if (line == 0) {
                return column < width && column < SOURCE ? text[column] : ' ';
            }
            for (int j = 0; j < size && j < SOURCE; j++) {
                if (column == columns[j] && line < rows[j]) {
                    return '|';
                }
                if (line == rows[j] && column >= columns[j] && column - columns[j] < widthOf(shown[j])) {
                    return digitOf(shown[j], column - columns[j]);
                }
            }
            return ' ';
        }

        private void layOut() {
            for (int j = Math.min(size, SOURCE) - 1; j >= 0; j--) {
                int line = 2;
                int last = columns[j] + widthOf(shown[j]) - 1;
                while (line < height && beginOf(line, j) - last <= 1) {
                    line++;
                }
                rows[j] = line;
                height = Math.max(height, line + 1);
            }
        }

        /** Where the leftmost thing of a line begins, of the values behind j: they stand in it, or have a | there. */
        private int beginOf(int line, int j) {
            for (int i = j + 1; i < size && i < SOURCE; i++) {
                if (rows[i] >= line) {
                    return columns[i];
                }
            }
            return SOURCE * 2;
        }

        private static int widthOf(int value) {
            int width = value < 0 ? 2 : 1;
            int rest = value / 10;
            for (int turn = 0; turn < 10 && rest != 0; turn++) {
                rest = rest / 10;
                width++;
            }
            return width;
        }

        private static int digitOf(int value, int i) {
            if (value < 0 && i == 0) {
                return '-';
            }
            int rest = value;
            for (int behind = widthOf(value) - 1; behind > i; behind--) {
                rest = rest / 10;
            }
            return '0' + Math.abs(rest % 10);
        }
    }
}
