/**
 * Ranges of terms: variables with ranges are told, a text of terms is read, of each part the range
 * of what it may be is reckoned, or the first fault told; then values are given, and each part's
 * value lies in its range.
 *
 * <p>All rows are made with the object and used again: no call but the constructor makes any.
 */
public final class RangeReckoner {
    public static final int NONE = -1;

    private static final int GREATEST = 2000000000;
    private static final int MOST_VARIABLES = 20;
    private static final int MOST_SIGNS = 400;
    private static final int MOST_DIGITS = 10;
    private static final int MOST_PARTS = 100;
    private static final int MOST_NESTED = 32;
    // Within each nested one, and outside them all, at most one operator of each of the five
    // strengths waits for its last part.
    private static final int MOST_PENDING = MOST_NESTED + 5 * (MOST_NESTED + 1);

    private static final int FIRST_SIGN = 32;
    private static final int LAST_SIGN = 126;

    private static final int NUMBER = 0;
    private static final int TRUTH = 1;

    private static final int NO_FAULT = 0;
    private static final int CANNOT_COME = 1;
    private static final int WRONG_KIND = 2;
    private static final int BY_ZERO = 3;
    private static final int BEYOND = 4;
    private static final int TOO_NESTED = 5;
    private static final int TOO_MANY = 6;

    // Tokens; those that are operators too bear the same number in a term's parts.
    private static final int NO_TOKEN = 0;
    private static final int END = 1;
    private static final int DIGITS = 2;
    private static final int VARIABLE = 3;
    private static final int OPEN = 4;
    private static final int CLOSE = 5;
    private static final int COMMA = 6;
    private static final int QUESTION = 7;
    private static final int COLON = 8;
    private static final int PLUS = 9;
    private static final int MINUS = 10;
    private static final int TIMES = 11;
    private static final int OVER = 12;
    private static final int REST = 13;
    private static final int LESS = 14;
    private static final int AT_MOST = 15;
    private static final int MORE = 16;
    private static final int AT_LEAST = 17;
    private static final int SAME = 18;
    private static final int OTHER = 19;
    private static final int NOT = 20;
    private static final int AND = 21;
    private static final int OR = 22;
    private static final int MIN = 23;
    private static final int MAX = 24;
    private static final int ABS = 25;
    // No token: the operator that a MINUS in front is.
    private static final int NEGATE = 26;

    // How strongly an operator holds what stands at its sides.
    private static final int HOLDS_NOTHING = -1;
    private static final int OF_CHOICE = 0;
    private static final int OF_OR = 1;
    private static final int OF_AND = 2;
    private static final int OF_IS = 3;
    private static final int OF_SUM = 4;
    private static final int OF_PRODUCT = 5;
    private static final int OF_FRONT = 6;

    private final Variables variables;
    private final Tape tape;
    private final Parser parser;
    // The term at hand; without any part there is none.
    private Term term;
    // What the next text is read into, so that the term at hand outlives a fault.
    private Term spare;

    public RangeReckoner() {
        variables = new Variables();
        tape = new Tape();
        term = new Term();
        spare = new Term();
        parser = new Parser(variables, tape, spare);
    }

    public int variable(int low, int high) {
        return variables.add(low, high);
    }

    public boolean give(int variable, int value) {
        return variables.set(variable, value);
    }

    public int feed(int a, int b) {
        return tape.append(a, b) ? tape.length : NONE;
    }

    public int take() {
        int fault = parser.read(spare);
        tape.clear();
        if (fault == NO_FAULT) {
            Term former = term;
            term = spare;
            spare = former;
        }
        return fault;
    }

    public int part(int i, int what) {
        if (!term.has(i)) {
            return NONE;
        }
        switch (what) {
            case 0:
                return term.placeOf(i);
            case 1:
                return term.kindOf(i);
            case 2:
                return term.lowOf(i);
            case 3:
                return term.highOf(i);
            default:
                return NONE;
        }
    }

    public long value(int i) throws IndexOutOfBoundsException {
        if (!term.has(i)) {
            throw new IndexOutOfBoundsException("there is no such part");
        }
        return term.worthOf(i, variables);
    }

    public long width() {
        if (term.size == 0) {
            return NONE;
        }
        int whole = term.size - 1;
        return (long) term.highOf(whole) - term.lowOf(whole) + 1;
    }

    public int count(int what) {
        switch (what) {
            case 0:
                return variables.size;
            case 1:
                return term.size;
            case 2:
                return tape.length;
            case 3:
                return term.depthOf(term.size - 1);
            default:
                return NONE;
        }
    }

    /** A row's element, 0 where the row has none. */
    private static int at(int[] row, int i) {
        return i >= 0 && i < row.length ? row[i] : 0;
    }

    private static boolean isDigit(int sign) {
        return sign >= '0' && sign <= '9';
    }

    private static boolean takesOne(int operator) {
        return operator == NEGATE || operator == NOT || operator == ABS;
    }

    private static boolean isFunction(int operator) {
        return operator == MIN || operator == MAX || operator == ABS;
    }

    private static boolean divides(int operator) {
        return operator == OVER || operator == REST;
    }

    private static int strengthOf(int operator) {
        switch (operator) {
            case OR:
                return OF_OR;
            case AND:
                return OF_AND;
            case LESS:
            case AT_MOST:
            case MORE:
            case AT_LEAST:
            case SAME:
            case OTHER:
                return OF_IS;
            case PLUS:
            case MINUS:
                return OF_SUM;
            case TIMES:
            case OVER:
            case REST:
                return OF_PRODUCT;
            case NEGATE:
            case NOT:
                return OF_FRONT;
            default:
                return HOLDS_NOTHING;
        }
    }

    /** The variables, their ranges and what they are worth now. */
    private static final class Variables {
        private final int[] low = new int[MOST_VARIABLES];
        private final int[] high = new int[MOST_VARIABLES];
        private final int[] worth = new int[MOST_VARIABLES];
        private int size = 0;

        private boolean has(int i) {
            return i >= 0 && i < size && i < MOST_VARIABLES;
        }

        private int add(int least, int greatest) {
            if (size >= MOST_VARIABLES || least > greatest || least < -GREATEST || greatest > GREATEST) {
                return NONE;
            }
            low[size] = least;
            high[size] = greatest;
            worth[size] = Math.max(least, Math.min(greatest, 0));
            size++;
            return size - 1;
        }

        private boolean set(int i, int given) {
            if (!has(i) || given < low[i] || given > high[i]) {
                return false;
            }
            worth[i] = given;
            return true;
        }

        private int lowOf(int i) {
            return at(low, i);
        }

        private int highOf(int i) {
            return at(high, i);
        }

        private int worthOf(int i) {
            return at(worth, i);
        }
    }

    /** The signs that wait to be read. */
    private static final class Tape {
        private final int[] signs = new int[MOST_SIGNS];
        private int length = 0;

        private void clear() {
            length = 0;
        }

        private int signAt(int i) {
            return i >= 0 && i < length ? at(signs, i) : NONE;
        }

        private boolean spells(int from, String word) {
            for (int i = 0; i < word.length(); i++) {
                if (signAt(from + i) != word.charAt(i)) {
                    return false;
                }
            }
            return true;
        }

        private boolean append(int a, int b) {
            int grown = appendWord(a, length);
            if (grown != NONE) {
                grown = appendWord(b, grown);
            }
            // Signs written beyond a length that stays are never read.
            if (grown != NONE) {
                length = grown;
            }
            return grown != NONE;
        }

        /** Writes four signs from a place on: the place behind them, NONE if one can't be. */
        private int appendWord(int word, int from) {
            int behind = from;
            for (int shift = 24; shift >= 0; shift -= 8) {
                int sign = (word >>> shift) & 255;
                if (sign == 0) {
                    continue;
                }
                if (sign < FIRST_SIGN || sign > LAST_SIGN || behind < 0 || behind >= MOST_SIGNS) {
                    return NONE;
                }
                signs[behind] = sign;
                behind++;
            }
            return behind;
        }
    }

    /** Cuts the tape into tokens, one at each step. */
    private static final class Tokens {
        private final Tape tape;
        private int next = 0;
        private int token = END;
        private int place = 0;
        // What digits say, or which variable it is.
        private int number = 0;

        private Tokens(Tape tape) {
            this.tape = tape;
        }

        private void restart() {
            next = 0;
        }

        private void advance() {
            skipSpaces();
            place = next;
            int sign = tape.signAt(next);
            if (sign == NONE) {
                token = END;
            } else if (isDigit(sign)) {
                readDigits();
            } else if (sign == 'v') {
                readVariable();
            } else if (sign == 'm' || sign == 'a') {
                readWord();
            } else {
                readMark();
            }
        }

        private void skipSpaces() {
            while (next < tape.length && tape.signAt(next) == ' ') {
                next++;
            }
        }

        private void readDigits() {
            long sum = 0;
            int digits = 0;
            for (; next < tape.length && isDigit(tape.signAt(next)); next++) {
                digits++;
                // A longer row is no token, and its sum might wrap round to one that is.
                if (digits <= MOST_DIGITS) {
                    sum = sum * 10 + (tape.signAt(next) - '0');
                }
            }
            boolean fits = digits <= MOST_DIGITS && sum <= GREATEST;
            token = fits ? DIGITS : NO_TOKEN;
            number = fits ? (int) sum : 0;
        }

        private void readVariable() {
            int first = tape.signAt(next + 1);
            int second = tape.signAt(next + 2);
            if (!isDigit(first)) {
                token = NO_TOKEN;
                return;
            }
            token = VARIABLE;
            number = first - '0';
            next += 2;
            if (isDigit(second)) {
                number = number * 10 + (second - '0');
                next++;
            }
        }

        private void readWord() {
            if (tape.spells(next, "min")) {
                token = MIN;
            } else if (tape.spells(next, "max")) {
                token = MAX;
            } else if (tape.spells(next, "abs")) {
                token = ABS;
            } else {
                token = NO_TOKEN;
            }
            next += 3;
        }

        private void readMark() {
            int first = tape.signAt(next);
            token = doubleMark(first, tape.signAt(next + 1));
            next += 2;
            if (token == NO_TOKEN) {
                token = singleMark(first);
                next--;
            }
        }

        private static int doubleMark(int first, int second) {
            if (first == '&' && second == '&') {
                return AND;
            }
            if (first == '|' && second == '|') {
                return OR;
            }
            if (second != '=') {
                return NO_TOKEN;
            }
            switch (first) {
                case '<':
                    return AT_MOST;
                case '>':
                    return AT_LEAST;
                case '=':
                    return SAME;
                case '!':
                    return OTHER;
                default:
                    return NO_TOKEN;
            }
        }

        private static int singleMark(int sign) {
            switch (sign) {
                case '(':
                    return OPEN;
                case ')':
                    return CLOSE;
                case ',':
                    return COMMA;
                case '?':
                    return QUESTION;
                case ':':
                    return COLON;
                case '+':
                    return PLUS;
                case '-':
                    return MINUS;
                case '*':
                    return TIMES;
                case '/':
                    return OVER;
                case '%':
                    return REST;
                case '<':
                    return LESS;
                case '>':
                    return MORE;
                case '!':
                    return NOT;
                default:
                    return NO_TOKEN;
            }
        }
    }

    /** A range's ends, in long so that one beyond the limit shows. */
    private static final class Range {
        private long low = 0;
        private long high = 0;

        private void put(long least, long greatest) {
            low = least;
            high = greatest;
        }

        private boolean isBeyond() {
            return low < -GREATEST || high > GREATEST;
        }

        private boolean hasZero() {
            return low <= 0 && high >= 0;
        }

        /** What an operator gives of its last two parts; of the last alone if it takes one. */
        private void reckon(int operator, Range x, Range y) {
            switch (operator) {
                case NEGATE:
                    put(-y.high, -y.low);
                    break;
                case PLUS:
                    put(x.low + y.low, x.high + y.high);
                    break;
                case MINUS:
                    put(x.low - y.high, x.high - y.low);
                    break;
                case TIMES:
                    cover(x.low * y.low, x.low * y.high, x.high * y.low, x.high * y.high);
                    break;
                case OVER:
                    if (y.low != 0 && y.high != 0) {
                        cover(x.low / y.low, x.low / y.high, x.high / y.low, x.high / y.high);
                    }
                    break;
                case REST:
                    reckonRest(x, y);
                    break;
                case MIN:
                    put(Math.min(x.low, y.low), Math.min(x.high, y.high));
                    break;
                case MAX:
                    put(Math.max(x.low, y.low), Math.max(x.high, y.high));
                    break;
                case ABS:
                    reckonSize(y);
                    break;
                case QUESTION:
                    put(Math.min(x.low, y.low), Math.max(x.high, y.high));
                    break;
                default:
                    put(0, 1);
            }
        }

        private void cover(long a, long b, long c, long d) {
            low = Math.min(Math.min(a, b), Math.min(c, d));
            high = Math.max(Math.max(a, b), Math.max(c, d));
        }

        private void reckonRest(Range x, Range y) {
            long most = Math.max(Math.abs(y.low), Math.abs(y.high)) - 1;
            low = x.low < 0 ? -Math.min(most, -x.low) : 0;
            high = x.high > 0 ? Math.min(most, x.high) : 0;
        }

        private void reckonSize(Range y) {
            long first = Math.abs(y.low);
            long second = Math.abs(y.high);
            low = y.hasZero() ? 0 : Math.min(first, second);
            high = Math.max(first, second);
        }
    }

    /** The parts of a term, as they are numbered; the last is the whole. */
    private static final class Term {
        private final int[] operator = new int[MOST_PARTS];
        private final int[] place = new int[MOST_PARTS];
        private final int[] kind = new int[MOST_PARTS];
        private final int[] low = new int[MOST_PARTS];
        private final int[] high = new int[MOST_PARTS];
        // The last two parts that an operator takes, both the same if it takes one.
        private final int[] left = new int[MOST_PARTS];
        private final int[] right = new int[MOST_PARTS];
        // Which variable it is, or which part stands ahead of a ?.
        private final int[] extra = new int[MOST_PARTS];
        private final int[] depth = new int[MOST_PARTS];
        private final long[] worth = new long[MOST_PARTS];
        private int size = 0;

        private void clear() {
            size = 0;
        }

        private boolean has(int i) {
            return i >= 0 && i < size && i < MOST_PARTS;
        }

        private boolean isFull() {
            return size >= MOST_PARTS;
        }

        private int placeOf(int i) {
            return at(place, i);
        }

        private int kindOf(int i) {
            return at(kind, i);
        }

        private int lowOf(int i) {
            return at(low, i);
        }

        private int highOf(int i) {
            return at(high, i);
        }

        private int depthOf(int i) {
            return has(i) ? at(depth, i) : 0;
        }

        /** Adds a part that takes none; tellTaken says what an operator takes. */
        private void add(int code, int where, int newKind, int more) {
            if (isFull()) {
                return;
            }
            operator[size] = code;
            place[size] = where;
            kind[size] = newKind;
            extra[size] = more;
            left[size] = NONE;
            right[size] = NONE;
            depth[size] = 1;
            size++;
        }

        private void tellRange(long least, long greatest) {
            int newest = size - 1;
            if (has(newest)) {
                low[newest] = (int) least;
                high[newest] = (int) greatest;
            }
        }

        private void tellTaken(int first, int second) {
            int newest = size - 1;
            if (has(newest)) {
                left[newest] = first;
                right[newest] = second;
                int below = Math.max(depthOf(first), depthOf(second));
                if (operator[newest] == QUESTION) {
                    below = Math.max(below, depthOf(extra[newest]));
                }
                depth[newest] = below + 1;
            }
        }

        private long worthOf(int i, Variables variables) {
            // What a part takes has lower numbers, so it is worked out ahead of it.
            for (int k = 0; k <= i && has(k); k++) {
                worth[k] = work(k, variables);
            }
            return workedOut(i);
        }

        private long workedOut(int i) {
            return has(i) ? worth[i] : 0;
        }

        private long work(int k, Variables variables) {
            int code = at(operator, k);
            long x = workedOut(at(left, k));
            long y = workedOut(at(right, k));
            switch (code) {
                case DIGITS:
                    return lowOf(k);
                case VARIABLE:
                    return variables.worthOf(at(extra, k));
                case QUESTION:
                    return workedOut(at(extra, k)) != 0 ? x : y;
                default:
                    break;
            }
            if (kindOf(k) == NUMBER) {
                return numberOf(code, x, y);
            }
            return isTrue(code, x, y) ? 1 : 0;
        }

        private static long numberOf(int code, long x, long y) {
            switch (code) {
                case NEGATE:
                    return -y;
                case PLUS:
                    return x + y;
                case MINUS:
                    return x - y;
                case TIMES:
                    return x * y;
                case OVER:
                    return y == 0 ? 0 : x / y;
                case REST:
                    return y == 0 ? 0 : x % y;
                case MIN:
                    return Math.min(x, y);
                case MAX:
                    return Math.max(x, y);
                case ABS:
                    return Math.abs(y);
                default:
                    return 0;
            }
        }

        private static boolean isTrue(int code, long x, long y) {
            switch (code) {
                case LESS:
                    return x < y;
                case AT_MOST:
                    return x <= y;
                case MORE:
                    return x > y;
                case AT_LEAST:
                    return x >= y;
                case SAME:
                    return x == y;
                case OTHER:
                    return x != y;
                case NOT:
                    return y == 0;
                case AND:
                    return x != 0 && y != 0;
                case OR:
                    return x != 0 || y != 0;
                default:
                    return false;
            }
        }
    }

    /** The operators and brackets whose last part is not read yet, the innermost on top. */
    private static final class Pending {
        private final int[] code = new int[MOST_PENDING];
        private final int[] place = new int[MOST_PENDING];
        // How many of its terms are still to come behind a , or a :.
        private final int[] awaited = new int[MOST_PENDING];
        private int size = 0;
        private int nested = 0;

        private void clear() {
            size = 0;
            nested = 0;
        }

        private void push(int newCode, int newPlace) {
            if (size >= MOST_PENDING) {
                return;
            }
            code[size] = newCode;
            place[size] = newPlace;
            awaited[size] = newCode == MIN || newCode == MAX || newCode == QUESTION ? 1 : 0;
            size++;
            nested += nests(newCode) ? 1 : 0;
        }

        private void pop() {
            if (size > 0) {
                nested -= nests(topCode()) ? 1 : 0;
                size--;
            }
        }

        private int topCode() {
            return size > 0 ? at(code, size - 1) : NO_TOKEN;
        }

        private int topPlace() {
            return at(place, size - 1);
        }

        private int topAwaited() {
            return at(awaited, size - 1);
        }

        private void cameNextTerm() {
            if (size > 0 && size <= MOST_PENDING) {
                awaited[size - 1]--;
            }
        }

        private int topStrength() {
            if (topCode() == QUESTION) {
                return topAwaited() == 0 ? OF_CHOICE : HOLDS_NOTHING;
            }
            return strengthOf(topCode());
        }

        private static boolean nests(int operator) {
            switch (operator) {
                case OPEN:
                case QUESTION:
                case NEGATE:
                case NOT:
                case MIN:
                case MAX:
                case ABS:
                    return true;
                default:
                    return false;
            }
        }
    }

    /**
     * Reads the tape's tokens from left to right into a term, or up to its first fault. Operators
     * wait on a stack for their last part instead of in calls, which bounds the calls that stand open.
     */
    private static final class Parser {
        private static final int OPERAND = 0;
        private static final int BRACKET = 1;
        private static final int OPERATOR = 2;
        private static final int NOTHING = 3;

        private final Variables variables;
        private final Tokens tokens;
        private final Pending pending = new Pending();
        // The parts that no operator has taken yet.
        private final int[] loose = new int[MOST_PARTS];
        private int looseSize = 0;
        private final Range first = new Range();
        private final Range second = new Range();
        private final Range given = new Range();
        private Term term;
        private int wanted = NOTHING;
        private int fault = NO_FAULT;

        private Parser(Variables variables, Tape tape, Term term) {
            this.variables = variables;
            this.tokens = new Tokens(tape);
            this.term = term;
        }

        private int read(Term into) {
            restart(into);
            for (int step = 0; step <= MOST_SIGNS && wanted != NOTHING; step++) {
                tokens.advance();
                if (wanted == OPERAND) {
                    readOperand();
                } else if (wanted == BRACKET) {
                    readBracket();
                } else if (!goesOn()) {
                    endTerm();
                }
            }
            return fault;
        }

        private void restart(Term into) {
            term = into;
            term.clear();
            tokens.restart();
            pending.clear();
            looseSize = 0;
            wanted = OPERAND;
            fault = NO_FAULT;
        }

        private void blame(int flaw, int place) {
            fault = flaw + 8 * place;
            wanted = NOTHING;
        }

        private void readOperand() {
            switch (tokens.token) {
                case DIGITS:
                    given.put(tokens.number, tokens.number);
                    addPart(DIGITS, tokens.place, NUMBER, NONE);
                    break;
                case VARIABLE:
                    readVariable();
                    break;
                case MINUS:
                    nest(NEGATE, OPERAND);
                    break;
                case NOT:
                case OPEN:
                    nest(tokens.token, OPERAND);
                    break;
                case MIN:
                case MAX:
                case ABS:
                    nest(tokens.token, BRACKET);
                    break;
                default:
                    blame(CANNOT_COME, tokens.place);
            }
        }

        private void readVariable() {
            int variable = tokens.number;
            if (!variables.has(variable)) {
                blame(CANNOT_COME, tokens.place);
                return;
            }
            given.put(variables.lowOf(variable), variables.highOf(variable));
            addPart(VARIABLE, tokens.place, NUMBER, variable);
        }

        private void readBracket() {
            if (tokens.token == OPEN) {
                wanted = OPERAND;
            } else {
                blame(CANNOT_COME, tokens.place);
            }
        }

        private void nest(int code, int wantedNext) {
            if (pending.nested >= MOST_NESTED) {
                blame(TOO_NESTED, tokens.place);
            } else {
                pending.push(code, tokens.place);
                wanted = wantedNext;
            }
        }

        /** Adds a part with the range given. */
        private void addPart(int code, int place, int kind, int extra) {
            if (term.isFull() || looseSize < 0 || looseSize >= MOST_PARTS) {
                blame(TOO_MANY, place);
                return;
            }
            term.add(code, place, kind, extra);
            term.tellRange(given.low, given.high);
            loose[looseSize] = term.size - 1;
            looseSize++;
            wanted = OPERATOR;
        }

        private int popLoose() {
            if (looseSize > 0) {
                looseSize--;
            }
            return at(loose, looseSize);
        }

        /** Reads an operator that stands behind its first part; false if the token is none that can. */
        private boolean goesOn() {
            int token = tokens.token;
            int strength = token == QUESTION ? OF_CHOICE : strengthOf(token);
            if (strength == HOLDS_NOTHING || strength == OF_FRONT) {
                return false;
            }
            settle(leastSettledBy(strength));
            if (fault != NO_FAULT) {
                return true;
            }
            if (strength == OF_IS && pending.topStrength() == OF_IS) {
                return false;
            }
            if (token == QUESTION) {
                nest(QUESTION, OPERAND);
            } else {
                pending.push(token, tokens.place);
                wanted = OPERAND;
            }
            return true;
        }

        /** The weakest operators ahead whose last part ends where one of this strength stands. */
        private static int leastSettledBy(int strength) {
            // A ? behind a ? belongs to the former's last term; a comparison behind a comparison
            // can't come, and is known by the one that still waits.
            boolean leavesItsLike = strength == OF_CHOICE || strength == OF_IS;
            return leavesItsLike ? strength + 1 : strength;
        }

        /** Settles all that a token behind the term leaves whole, and only then looks if it can come. */
        private void endTerm() {
            settle(OF_CHOICE);
            int around = pending.topCode();
            boolean last = pending.topAwaited() == 0;
            if (fault == NO_FAULT && last && isFunction(around)) {
                combine();
            }
            if (fault == NO_FAULT) {
                readBehindTerm(around, last);
            }
        }

        private void readBehindTerm(int around, boolean last) {
            int due = tokenDue(around, last);
            if (tokens.token != due) {
                blame(CANNOT_COME, tokens.place);
            } else if (due == END) {
                wanted = NOTHING;
            } else if (due != CLOSE) {
                pending.cameNextTerm();
                wanted = OPERAND;
            } else if (around == OPEN) {
                // A function has left the stack already, when it became a part.
                pending.pop();
            }
        }

        /** The token that must stand behind a whole term within what is around it. */
        private static int tokenDue(int around, boolean last) {
            if (around == NO_TOKEN) {
                return END;
            }
            if (last) {
                return CLOSE;
            }
            return around == QUESTION ? COLON : COMMA;
        }

        private void settle(int least) {
            for (int n = pending.size; n > 0 && fault == NO_FAULT && pending.topStrength() >= least; n--) {
                combine();
            }
        }

        /** Makes the topmost operator a part, its last part being read. */
        private void combine() {
            int operator = pending.topCode();
            int place = pending.topPlace();
            pending.pop();
            int right = popLoose();
            int left = takesOne(operator) ? right : popLoose();
            int ahead = operator == QUESTION ? popLoose() : NONE;
            first.put(term.lowOf(left), term.highOf(left));
            second.put(term.lowOf(right), term.highOf(right));
            if (!kindsFit(operator, left, right, ahead)) {
                blame(WRONG_KIND, place);
                return;
            }
            if (divides(operator) && second.hasZero()) {
                blame(BY_ZERO, place);
                return;
            }
            given.reckon(operator, first, second);
            if (given.isBeyond()) {
                blame(BEYOND, place);
                return;
            }
            addPart(operator, place, kindGiven(operator, right), ahead);
            if (fault == NO_FAULT) {
                term.tellTaken(left, right);
            }
        }

        private boolean kindsFit(int operator, int left, int right, int ahead) {
            if (term.kindOf(left) != term.kindOf(right)) {
                return false;
            }
            switch (operator) {
                case SAME:
                case OTHER:
                    return true;
                case QUESTION:
                    return term.kindOf(ahead) == TRUTH;
                case NOT:
                case AND:
                case OR:
                    return term.kindOf(right) == TRUTH;
                default:
                    return term.kindOf(right) == NUMBER;
            }
        }

        private int kindGiven(int operator, int right) {
            if (operator == QUESTION) {
                return term.kindOf(right);
            }
            int strength = strengthOf(operator);
            boolean judges = strength == OF_IS || strength == OF_AND || strength == OF_OR;
            return judges || operator == NOT ? TRUTH : NUMBER;
        }
    }
}
