import java.util.Arrays;
import java.util.NoSuchElementException;

/** A machine whose programme is worn by walking: see README.md for its use. */
public final class WornLines {
    public static final int NONE = -1;

    private static final int STUFFS = 4;
    private static final int CELLS = 6;
    private static final int GIVEN = 2;
    private static final int INPUTS = 64;
    private static final int LINES = 16;
    private static final int TWINS = 4;
    private static final int MARKS = 4;
    private static final int ROOM = 64;
    private static final int SIGNS = 1000;
    private static final int WORD = 8;
    private static final int DIGITS = 4;
    private static final int NESTED = 5;
    private static final int KEPT = 200;
    private static final int ASKED = 1000;
    private static final int BY_HAND = 1000000;
    private static final int ROUNDS = 100;
    private static final int OTHERWISE = -2;

    private static final int STRANGE = 1;
    private static final int UNTOLD = 2;
    private static final int TOLD = 3;
    private static final int UNFIT = 4;
    private static final int TOO_MANY = 5;

    private static final int SET = 0;
    private static final int WRITE = 1;
    private static final int GO = 2;
    private static final int IF = 3;
    private static final int CALL = 4;
    private static final int MEND = 5;
    private static final int HALT = 6;

    private static final int HARD = 0;
    private static final int SOFT = 1;
    private static final int PLAIN = 2;

    private static final int NOTHING = 0;
    private static final int GOES_ON = 1;
    private static final int ENDED = 2;
    private static final int FALLEN = 3;
    private static final int SPENT = 4;

    // An E is kept as postfix code: each item is an operation + 16 * what it is about.
    // What puts a value comes first, then what changes one, then what joins two.
    private static final int NUMBER = 0;
    private static final int CELL = 1;
    private static final int WORN = 2;
    private static final int NOT = 3;
    private static final int AND = 4;
    private static final int OR = 5;
    private static final int LESS = 6;
    private static final int EQUAL = 7;
    private static final int PLUS = 8;
    private static final int MINUS = 9;
    private static final int TIMES = 10;
    // 4 values may wait in each of the 5 nestings, and one is being made: 21.
    private static final int STACK = 32;

    private static final int JOINS_TESTS = 0;
    private static final int JOINS_SUMS = 1;
    private static final int JOINS_PRODUCTS = 2;
    private static final int JOINS_PARTS = 3;
    private static final int JOINS_NOTHING = 4;

    private static final int DEAR = 1000000000;

    private static final Token[] TOKENS = Token.values();

    private final Tape tape = new Tape();
    private final Programme empty = new Programme();
    private final Reader reader = new Reader(tape, empty);
    private final Machine hand = new Machine(empty, KEPT);
    private final Machine walker = new Machine(empty, ASKED);
    private final Machine fellow = new Machine(empty, ASKED);
    private final Machine[] marks = new Machine[MARKS];
    private final boolean[] marked = new boolean[MARKS];
    private final Survey survey = new Survey();
    private final Layout layout = new Layout(empty);

    public WornLines() {
        for (int i = 0; i < MARKS; i++) {
            marks[i] = new Machine(empty, KEPT);
        }
    }

    public int feed(long a, long b, long c) {
        tape.addBytes(a);
        tape.addBytes(b);
        tape.addBytes(c);
        return tape.length;
    }

    public int programme() {
        Programme told = reader.read();
        if (reader.fault == 0) {
            hand.takeAsTold(told);
        }
        return reader.fault;
    }

    public int stuff(int stuff, int what) {
        if (!within(stuff, hand.programme.stuffs)) {
            return NONE;
        }
        switch (what) {
            case 0: return hand.programme.bears[stuff];
            case 1: return hand.programme.costs[stuff];
            default: return NONE;
        }
    }

    public int line(int line, int what) {
        if (!within(line, hand.programme.lines)) {
            return NONE;
        }
        switch (what) {
            case 0: return hand.programme.act[line];
            case 1: return hand.stuffs[line];
            case 2: return hand.twins[line];
            case 3: return hand.bearing(line);
            case 4: return hand.worn[line];
            default: return NONE;
        }
    }

    public boolean lay(int line, int stuff, int twins) {
        if (!within(line, hand.programme.lines) || !within(stuff, hand.programme.stuffs)
                || twins < 1 || twins > TWINS) {
            return false;
        }
        hand.stuffs[line] = stuff;
        hand.twins[line] = twins;
        hand.worn[line] = 0;
        return true;
    }

    public int cost() {
        int sum = 0;
        for (int line = 0; line < hand.programme.lines; line++) {
            sum += hand.programme.costs[hand.stuffs[line]] * hand.twins[line];
        }
        return sum;
    }

    public int inputs() {
        return hand.programme.inputCount();
    }

    public int input(int input, int cell) {
        if (!within(input, hand.programme.inputCount()) || !within(cell, hand.programme.cells)) {
            return NONE;
        }
        return hand.programme.atFirst(input, cell);
    }

    public boolean begin(int input) {
        if (!canWalk(input)) {
            return false;
        }
        hand.start(input);
        return true;
    }

    public int run(int steps) {
        if (steps < 0 || steps > BY_HAND) {
            return NONE;
        }
        int made = hand.go(Math.min(steps, BY_HAND - hand.steps));
        if (hand.state == GOES_ON && hand.steps >= BY_HAND) {
            hand.state = SPENT;
        }
        return made;
    }

    public int state(int what) {
        switch (what) {
            case 0: return hand.state;
            case 1: return hand.state == NOTHING || hand.state == ENDED ? NONE : hand.next;
            case 2: return hand.steps;
            case 3: return hand.written;
            default: return NONE;
        }
    }

    public int cell(int cell) throws NoSuchElementException {
        if (hand.state == NOTHING || !within(cell, hand.programme.cells)) {
            throw new NoSuchElementException("no such cell, or nothing is begun");
        }
        return hand.cells[cell];
    }

    public int wrote(int i) throws NoSuchElementException {
        if (!within(i, Math.min(hand.written, KEPT))) {
            throw new NoSuchElementException("not written, or not kept");
        }
        return hand.kept[i];
    }

    public boolean fresh() {
        Arrays.fill(hand.worn, 0);
        return true;
    }

    public int steps(int input) {
        if (!canWalk(input)) {
            return NONE;
        }
        walk(walker, hand, HARD, input);
        return walker.isEndless() ? NONE : walker.steps;
    }

    public int falls(int input) {
        if (!canWalk(input)) {
            return NONE;
        }
        walk(walker, hand, HARD, input);
        return walker.state == FALLEN ? walker.next : NONE;
    }

    public int most(int line, int what) {
        if (!within(line, hand.programme.lines) || !surveyed()) {
            return NONE;
        }
        switch (what) {
            case 0: return survey.often[line];
            case 1: return survey.by[line];
            case 2: return survey.peak[line];
            default: return NONE;
        }
    }

    public int never() {
        if (!surveyed()) {
            return NONE;
        }
        int bits = 0;
        for (int line = 0; line < hand.programme.lines; line++) {
            if (survey.often[line] == 0) {
                bits |= 1 << line;
            }
        }
        return bits;
    }

    public int first(int what) {
        int input = firstToFall();
        if (input == NONE) {
            return NONE;
        }
        walk(walker, hand, HARD, input);
        switch (what) {
            case 0: return input;
            case 1: return walker.steps;
            case 2: return walker.next;
            default: return NONE;
        }
    }

    public int apart() {
        if (hand.programme.lines == 0) {
            return NONE;
        }
        int inputs = hand.programme.inputCount();
        for (int input = 0; input < inputs; input++) {
            walk(walker, hand, HARD, input);
            walk(fellow, hand, PLAIN, input);
            if (!walker.wroteLike(fellow)) {
                return input;
            }
        }
        return NONE;
    }

    public int rounds(int input) {
        if (!canWalk(input)) {
            return NONE;
        }
        walker.layLike(hand);
        walker.way = HARD;
        for (int ended = 0; ended < ROUNDS; ended++) {
            walker.start(input);
            walker.go(ASKED);
            if (walker.state != ENDED) {
                return ended;
            }
        }
        return ROUNDS;
    }

    public int lasting(int room) {
        return canLast(room) ? layout.leastCost(room) : NONE;
    }

    public int lasts(int room, int line, int what) {
        if (!canLast(room) || !within(line, hand.programme.lines)) {
            return NONE;
        }
        layout.choose(room, line);
        switch (what) {
            case 0: return layout.stuff;
            case 1: return layout.twins;
            default: return NONE;
        }
    }

    public int better(int what) {
        if (hand.state != GOES_ON && hand.state != FALLEN) {
            return NONE;
        }
        int best = NONE;
        int most = NONE;
        for (int line = 0; line < hand.programme.lines; line++) {
            int made = stepsIfMended(line);
            if (made > most) {
                most = made;
                best = line;
            }
        }
        switch (what) {
            case 0: return best;
            case 1: return most;
            default: return NONE;
        }
    }

    public int same(int mark) {
        if (!within(mark, MARKS) || !marked[mark] || !comparable(marks[mark].programme)) {
            return OTHERWISE;
        }
        int inputs = hand.programme.inputCount();
        for (int input = 0; input < inputs; input++) {
            walk(walker, hand, PLAIN, input);
            walk(fellow, marks[mark], PLAIN, input);
            if (walker.isEndless() != fellow.isEndless() || !walker.wroteLike(fellow)) {
                return input;
            }
        }
        return NONE;
    }

    public boolean mark(int mark, boolean back) {
        if (!within(mark, MARKS) || back && !marked[mark]) {
            return false;
        }
        if (back) {
            hand.copy(marks[mark]);
        } else {
            marks[mark].copy(hand);
            marked[mark] = true;
        }
        return true;
    }

    public int count(int what) {
        switch (what) {
            case 0: return hand.programme.stuffs;
            case 1: return hand.programme.cells;
            case 2: return hand.programme.given;
            case 3: return hand.programme.lines;
            case 4: return tape.length;
            default: return NONE;
        }
    }

    private static boolean within(int i, int count) {
        return i >= 0 && i < count;
    }

    private boolean canWalk(int input) {
        return hand.programme.lines > 0 && within(input, hand.programme.inputCount());
    }

    private boolean comparable(Programme other) {
        return hand.programme.lines > 0 && other.lines > 0
                && hand.programme.inputCount() == other.inputCount();
    }

    private static void walk(Machine walker, Machine like, int way, int input) {
        walker.layLike(like);
        walker.way = way;
        walker.start(input);
        walker.go(ASKED);
        // To FALL takes no STEP, so a HOLE right behind the last STEP is within them.
        walker.fallIfHole();
    }

    private int firstToFall() {
        if (hand.programme.lines == 0) {
            return NONE;
        }
        int first = NONE;
        int fewest = 0;
        int inputs = hand.programme.inputCount();
        for (int input = 0; input < inputs; input++) {
            walk(walker, hand, HARD, input);
            if (walker.state == FALLEN && (first == NONE || walker.steps < fewest)) {
                first = input;
                fewest = walker.steps;
            }
        }
        return first;
    }

    // By hand no more STEPS than BY_HAND can be made, mended or not.
    private int stepsIfMended(int line) {
        walker.copy(hand);
        walker.state = GOES_ON;
        walker.worn[line] = 0;
        return walker.go(Math.min(ASKED, BY_HAND - hand.steps));
    }

    // Neither what SOFT runs do nor the cheapest laying hangs on how the LINES are laid,
    // so both are worked out once for a PROGRAMME.
    private boolean surveyed() {
        if (hand.programme.lines == 0) {
            return false;
        }
        if (survey.of != hand.programme) {
            survey.open(hand.programme);
            walker.layLike(hand);
            int inputs = hand.programme.inputCount();
            for (int input = 0; input < inputs && !survey.endless; input++) {
                survey.add(walker, input);
            }
            layout.make(hand.programme, survey.peak);
        }
        return !survey.endless;
    }

    private boolean canLast(int room) {
        return room >= 1 && room <= ROOM && surveyed() && layout.leastCost(room) != NONE;
    }

    /** What may stand on the TAPE; a text is kept by its bytes, so that names are compared as numbers. */
    private enum Token {
        END(""), NO_TOKEN(""), A_NUMBER(""), A_NAME(""),
        OPEN("("), CLOSE(")"), SEMICOLON(";"),
        IS_LESS("<", JOINS_SUMS, LESS), IS_EQUAL("=", JOINS_SUMS, EQUAL),
        PLUS_SIGN("+", JOINS_PRODUCTS, PLUS), MINUS_SIGN("-", JOINS_PRODUCTS, MINUS),
        TIMES_SIGN("*", JOINS_PARTS, TIMES),
        STUFF_WORD("stuff"), BEARS_WORD("bears"), COSTS_WORD("costs"), CELL_WORD("cell"),
        INPUT_WORD("input"), LINE_WORD("line"), KEEP_WORD("keep"), BY_WORD("by"),
        SET_WORD("set", SET), WRITE_WORD("write", WRITE), GO_WORD("go", GO), IF_WORD("if", IF),
        CALL_WORD("call", CALL), MEND_WORD("mend", MEND), HALT_WORD("halt", HALT),
        WORN_WORD("worn"), NOT_WORD("not"),
        AND_WORD("and", JOINS_TESTS, AND), OR_WORD("or", JOINS_TESTS, OR);

        final long spelling;
        final int level;
        final int operation;
        final int act;

        Token(String text) {
            this(text, NONE);
        }

        Token(String text, int act) {
            this(text, JOINS_NOTHING, NONE, act);
        }

        Token(String text, int level, int operation) {
            this(text, level, operation, NONE);
        }

        Token(String text, int level, int operation, int act) {
            long bytes = 0;
            for (int i = 0; i < text.length(); i++) {
                bytes = bytes << 8 | text.charAt(i);
            }
            this.spelling = bytes;
            this.level = level;
            this.operation = operation;
            this.act = act;
        }
    }

    /** The signs that were fed, and the TOKENS that they are split into. */
    private static final class Tape {
        final char[] signs = new char[SIGNS];
        int length;
        // One more than signs, for the end, which is a token too.
        final Token[] tokens = new Token[SIGNS + 1];
        final int[] places = new int[SIGNS + 1];
        final long[] values = new long[SIGNS + 1];
        int count;

        void addBytes(long bytes) {
            for (int shift = 56; shift >= 0; shift -= 8) {
                int sign = (int) (bytes >>> shift) & 255;
                if (length < SIGNS && (sign == 10 || sign >= 32 && sign <= 126)) {
                    signs[length] = (char) sign;
                    length++;
                }
            }
        }

        void split() {
            count = 0;
            int at = 0;
            for (int i = 0; i < SIGNS && at < length; i++) {
                at = isBlank(signs[at]) ? at + 1 : splitOne(at);
            }
            add(Token.END, length, 0);
        }

        private int splitOne(int at) {
            int kind = kindOf(signs[at]);
            int end = at + 1;
            for (int i = end; i < length && kind != 0 && kindOf(signs[i]) == kind; i++) {
                end++;
            }
            if (kind == 'a') {
                addWord(at, end);
            } else if (kind == '0') {
                addNumber(at, end);
            } else {
                add(spelled(signs[at], Token.NO_TOKEN), at, 0);
            }
            return end;
        }

        private void addWord(int at, int end) {
            long bytes = 0;
            for (int i = at; i < end; i++) {
                bytes = bytes << 8 | signs[i];
            }
            add(end - at > WORD ? Token.NO_TOKEN : spelled(bytes, Token.A_NAME), at, bytes);
        }

        private void addNumber(int at, int end) {
            long number = 0;
            for (int i = at; i < end; i++) {
                number = number * 10 + (signs[i] - '0');
            }
            add(end - at > DIGITS ? Token.NO_TOKEN : Token.A_NUMBER, at, number);
        }

        private void add(Token token, int place, long value) {
            if (count < tokens.length) {
                tokens[count] = token;
                places[count] = place;
                values[count] = value;
                count++;
            }
        }

        private static Token spelled(long bytes, Token otherwise) {
            for (Token token : TOKENS) {
                if (token.spelling == bytes) {
                    return token;
                }
            }
            return otherwise;
        }

        private static boolean isBlank(char sign) {
            return sign == 10 || sign == 32;
        }

        private static int kindOf(char sign) {
            if (sign >= 'a' && sign <= 'z') {
                return 'a';
            }
            return sign >= '0' && sign <= '9' ? '0' : 0;
        }
    }

    /** A PROGRAMME as it was told; it is not changed once it has been read. */
    private static final class Programme {
        int stuffs;
        final int[] bears = new int[STUFFS];
        final int[] costs = new int[STUFFS];
        int cells;
        final int[] told = new int[CELLS];
        int given;
        final int[] givenCell = new int[GIVEN];
        final int[] least = new int[GIVEN];
        final int[] greatest = new int[GIVEN];
        int lines;
        final int[] act = new int[LINES];
        final int[] stuffOf = new int[LINES];
        final int[] target = new int[LINES];
        // The code of a LINE's first E goes from here ..
        final int[] from = new int[LINES];
        // .. to here, where that of its second begins ..
        final int[] middle = new int[LINES];
        // .. and ends here.
        final int[] end = new int[LINES];
        int[] code = new int[0];

        int inputCount() {
            int count = 1;
            for (int i = 0; i < given; i++) {
                count *= width(i);
            }
            return count;
        }

        int atFirst(int input, int cell) {
            int value = told[cell];
            int rest = input;
            for (int i = given - 1; i >= 0; i--) {
                int width = width(i);
                if (givenCell[i] == cell) {
                    value = least[i] + rest % width;
                }
                rest /= width;
            }
            return value;
        }

        // It divides, so it is never less than 1.
        private int width(int i) {
            return Math.max(1, greatest[i] - least[i] + 1);
        }
    }

    /** Reads a PROGRAMME off the TAPE. The first FAULT stays: what is read behind it has no meaning. */
    private static final class Reader {
        private final Tape tape;
        private final long[] stuffNames = new long[STUFFS];
        private final long[] cellNames = new long[CELLS];
        private final int[] code = new int[SIGNS];
        private int coded;
        private Programme told;
        private int taken;
        private Token token = Token.END;
        private int place;
        private long value;
        int fault;

        Reader(Tape tape, Programme empty) {
            this.tape = tape;
            this.told = empty;
        }

        Programme read() {
            tape.split();
            tape.length = 0;
            told = new Programme();
            coded = 0;
            fault = 0;
            taken = 0;
            advance();
            for (int i = 0; i < SIGNS && fault == 0 && token != Token.END; i++) {
                if (token == Token.STUFF_WORD) {
                    tellStuff();
                } else if (token == Token.CELL_WORD) {
                    tellCell();
                } else if (token == Token.INPUT_WORD) {
                    tellInput();
                } else if (token == Token.LINE_WORD) {
                    tellLine();
                } else {
                    fail(STRANGE);
                }
                expect(Token.SEMICOLON);
            }
            told.code = Arrays.copyOf(code, coded);
            return told;
        }

        private void tellStuff() {
            int stuff = told.stuffs;
            if (stuff >= STUFFS) {
                fail(TOO_MANY);
                return;
            }
            advance();
            stuffNames[stuff] = takeNewName();
            expect(Token.BEARS_WORD);
            told.bears[stuff] = takeNumber(1, 9999);
            expect(Token.COSTS_WORD);
            told.costs[stuff] = takeNumber(0, 999);
            told.stuffs = stuff + 1;
        }

        private void tellCell() {
            int cell = told.cells;
            if (cell >= CELLS) {
                fail(TOO_MANY);
                return;
            }
            advance();
            cellNames[cell] = takeNewName();
            told.told[cell] = takeNumber(0, 9999);
            told.cells = cell + 1;
        }

        private void tellInput() {
            int input = told.given;
            if (input >= GIVEN) {
                fail(TOO_MANY);
                return;
            }
            advance();
            int cell = toldHere(cellNames, told.cells);
            if (isGiven(cell)) {
                fail(TOLD);
            }
            advance();
            int least = takeNumber(0, 9999);
            int greatest = numberHere(least, 9999);
            if ((greatest - least + 1) * told.inputCount() > INPUTS) {
                fail(TOO_MANY);
            }
            advance();
            told.givenCell[input] = cell;
            told.least[input] = least;
            told.greatest[input] = greatest;
            told.given = input + 1;
        }

        private void tellLine() {
            int line = told.lines;
            if (line >= LINES) {
                fail(TOO_MANY);
                return;
            }
            advance();
            told.stuffOf[line] = takeStuff();
            told.from[line] = coded;
            tellAct(line);
            told.end[line] = coded;
            told.lines = line + 1;
        }

        private void tellAct(int line) {
            int act = token.act;
            if (act == NONE) {
                fail(STRANGE);
                return;
            }
            told.act[line] = act;
            advance();
            if (act == SET) {
                told.target[line] = takeCell();
            }
            if (act != HALT) {
                expression(JOINS_TESTS, 0);
            }
            told.middle[line] = coded;
            if (act == IF) {
                expect(Token.GO_WORD);
                expression(JOINS_TESTS, 0);
            } else if (act == MEND) {
                expect(Token.BY_WORD);
                expression(JOINS_TESTS, 0);
            } else if (act == CALL) {
                expect(Token.KEEP_WORD);
                told.target[line] = takeCell();
            }
        }

        // All that joins is told from the left, but a TEST has one < or = at most.
        private void expression(int level, int nested) {
            if (level >= JOINS_NOTHING) {
                part(nested);
                return;
            }
            expression(level + 1, nested);
            int most = level == JOINS_SUMS ? 1 : SIGNS;
            for (int i = 0; i < most && fault == 0 && token.level == level; i++) {
                int operation = token.operation;
                advance();
                expression(level + 1, nested);
                put(operation, 0);
            }
        }

        // That it lies too deep is the greatest kind of FAULT, so all others are looked for ahead of it.
        private void part(int nested) {
            Token begins = token;
            int cell = begins == Token.A_NAME ? toldHere(cellNames, told.cells) : 0;
            if (!beginsPart(begins)) {
                fail(STRANGE);
            } else if (nested >= NESTED) {
                fail(TOO_MANY);
            }
            if (fault != 0) {
                return;
            }
            int number = (int) value;
            advance();
            if (begins == Token.A_NUMBER) {
                put(NUMBER, number);
            } else if (begins == Token.A_NAME) {
                put(CELL, cell);
            } else if (begins == Token.OPEN) {
                expression(JOINS_TESTS, nested + 1);
                expect(Token.CLOSE);
            } else {
                part(nested + 1);
                put(begins == Token.WORN_WORD ? WORN : NOT, 0);
            }
        }

        private static boolean beginsPart(Token token) {
            return token == Token.A_NUMBER || token == Token.A_NAME || token == Token.OPEN
                    || token == Token.WORN_WORD || token == Token.NOT_WORD;
        }

        private void put(int operation, int about) {
            if (coded < code.length) {
                code[coded] = operation + 16 * about;
                coded++;
            }
        }

        private void advance() {
            // Behind the end there is nothing to take: it stays.
            if (taken < tape.count) {
                token = tape.tokens[taken];
                place = tape.places[taken];
                value = tape.values[taken];
                taken++;
            }
        }

        private void fail(int kind) {
            if (fault == 0) {
                fault = kind + 16 * place;
            }
        }

        private void expect(Token wanted) {
            if (token != wanted) {
                fail(STRANGE);
            }
            advance();
        }

        private int takeNumber(int least, int greatest) {
            int number = numberHere(least, greatest);
            advance();
            return number;
        }

        private int numberHere(int least, int greatest) {
            if (token != Token.A_NUMBER) {
                fail(STRANGE);
                return least;
            }
            if (value < least || value > greatest) {
                fail(UNFIT);
                return least;
            }
            return (int) value;
        }

        private long takeNewName() {
            long name = value;
            if (token != Token.A_NAME) {
                fail(STRANGE);
            } else if (find(stuffNames, told.stuffs) != NONE || find(cellNames, told.cells) != NONE) {
                fail(TOLD);
            }
            advance();
            return name;
        }

        private int takeStuff() {
            int stuff = toldHere(stuffNames, told.stuffs);
            advance();
            return stuff;
        }

        private int takeCell() {
            int cell = toldHere(cellNames, told.cells);
            advance();
            return cell;
        }

        private int toldHere(long[] names, int count) {
            if (token != Token.A_NAME) {
                fail(STRANGE);
                return 0;
            }
            int found = find(names, count);
            if (found == NONE) {
                fail(UNTOLD);
                return 0;
            }
            return found;
        }

        private int find(long[] names, int count) {
            for (int i = 0; i < count && i < names.length; i++) {
                if (names[i] == value) {
                    return i;
                }
            }
            return NONE;
        }

        private boolean isGiven(int cell) {
            for (int i = 0; i < told.given; i++) {
                if (told.givenCell[i] == cell) {
                    return true;
                }
            }
            return false;
        }
    }

    /** A PROGRAMME as it is LAID and worn, and the machine that goes over it. */
    private static final class Machine {
        Programme programme;
        final int[] stuffs = new int[LINES];
        final int[] twins = new int[LINES];
        final int[] worn = new int[LINES];
        final int[] cells = new int[CELLS];
        final int[] kept;
        private final int[] stack = new int[STACK];
        int way = HARD;
        int state = NOTHING;
        int next;
        int steps;
        int written;

        Machine(Programme programme, int keeps) {
            this.programme = programme;
            kept = new int[keeps];
        }

        void takeAsTold(Programme told) {
            programme = told;
            System.arraycopy(told.stuffOf, 0, stuffs, 0, LINES);
            Arrays.fill(twins, 1);
            Arrays.fill(worn, 0);
            state = NOTHING;
            next = 0;
            steps = 0;
            written = 0;
        }

        void layLike(Machine other) {
            programme = other.programme;
            System.arraycopy(other.stuffs, 0, stuffs, 0, LINES);
            System.arraycopy(other.twins, 0, twins, 0, LINES);
            Arrays.fill(worn, 0);
        }

        void copy(Machine other) {
            layLike(other);
            System.arraycopy(other.worn, 0, worn, 0, LINES);
            System.arraycopy(other.cells, 0, cells, 0, CELLS);
            System.arraycopy(other.kept, 0, kept, 0, Math.min(other.kept.length, kept.length));
            way = other.way;
            state = other.state;
            next = other.next;
            steps = other.steps;
            written = other.written;
        }

        void start(int input) {
            for (int cell = 0; cell < programme.cells; cell++) {
                cells[cell] = programme.atFirst(input, cell);
            }
            state = GOES_ON;
            next = 0;
            steps = 0;
            written = 0;
        }

        int bearing(int line) {
            return programme.bears[stuffs[line]] * twins[line];
        }

        boolean isEndless() {
            return state == GOES_ON;
        }

        boolean wroteLike(Machine other) {
            if (written != other.written) {
                return false;
            }
            for (int i = 0; i < written && i < kept.length && i < other.kept.length; i++) {
                if (kept[i] != other.kept[i]) {
                    return false;
                }
            }
            return true;
        }

        int go(int most) {
            int made = 0;
            for (int i = 0; i < most && step(); i++) {
                made++;
            }
            return made;
        }

        boolean step() {
            fallIfHole();
            if (state != GOES_ON || !within(next, programme.lines)) {
                return false;
            }
            if (way != PLAIN) {
                worn[next]++;
            }
            steps++;
            next = work(next);
            if (next >= programme.lines) {
                state = ENDED;
            }
            return true;
        }

        void fallIfHole() {
            if (state == GOES_ON && way == HARD && within(next, programme.lines) && worn[next] >= bearing(next)) {
                state = FALLEN;
            }
        }

        private int work(int line) {
            int one = reckon(programme.from[line], programme.middle[line]);
            int two = reckon(programme.middle[line], programme.end[line]);
            switch (programme.act[line]) {
                case SET:
                    cells[programme.target[line]] = one;
                    return line + 1;
                case WRITE:
                    write(one);
                    return line + 1;
                case GO:
                    return lineOf(one);
                case IF:
                    return one != 0 ? lineOf(two) : line + 1;
                case CALL:
                    cells[programme.target[line]] = line + 1;
                    return lineOf(one);
                case MEND:
                    mend(lineOf(one), two);
                    return line + 1;
                default:
                    return programme.lines;
            }
        }

        private void write(int value) {
            if (written < kept.length) {
                kept[written] = value;
            }
            written++;
        }

        private void mend(int line, int by) {
            if (by > 0) {
                worn[line] = Math.max(0, worn[line] - by);
            }
        }

        private int lineOf(int number) {
            if (programme.lines == 0) {
                return 0;
            }
            int rest = number % programme.lines;
            return rest < 0 ? rest + programme.lines : rest;
        }

        private int reckon(int from, int to) {
            int top = 0;
            int end = Math.min(to, programme.code.length);
            for (int i = Math.max(0, from); i < end; i++) {
                int operation = programme.code[i] & 15;
                int about = programme.code[i] >> 4;
                if (operation <= CELL && top < STACK) {
                    stack[top] = operation == NUMBER ? about : cells[about];
                    top++;
                } else if (operation == WORN && top > 0) {
                    stack[top - 1] = worn[lineOf(stack[top - 1])];
                } else if (operation == NOT && top > 0) {
                    stack[top - 1] = stack[top - 1] == 0 ? 1 : 0;
                } else if (top > 1) {
                    top--;
                    stack[top - 1] = joined(operation, stack[top - 1], stack[top]);
                }
            }
            return top > 0 ? stack[0] : 0;
        }

        private static int joined(int operation, int left, int right) {
            switch (operation) {
                case AND: return left != 0 && right != 0 ? 1 : 0;
                case OR: return left != 0 || right != 0 ? 1 : 0;
                case LESS: return left < right ? 1 : 0;
                case EQUAL: return left == right ? 1 : 0;
                case PLUS: return left + right;
                case MINUS: return left - right;
                default: return left * right;
            }
        }
    }

    /** How often the INPUTS of a PROGRAMME go over its LINES, SOFT, and how worn these get. */
    private static final class Survey {
        Programme of;
        boolean endless;
        final int[] often = new int[LINES];
        final int[] by = new int[LINES];
        final int[] peak = new int[LINES];
        private final int[] over = new int[LINES];

        void open(Programme programme) {
            of = programme;
            endless = false;
            Arrays.fill(often, 0);
            Arrays.fill(by, 0);
            Arrays.fill(peak, 0);
        }

        void add(Machine walker, int input) {
            Arrays.fill(over, 0);
            Arrays.fill(walker.worn, 0);
            walker.way = SOFT;
            walker.start(input);
            for (int i = 0; i < ASKED && within(walker.next, walker.programme.lines); i++) {
                int line = walker.next;
                over[line]++;
                // Asked ahead of the STEP: a LINE that mends itself is less worn behind it.
                peak[line] = Math.max(peak[line], walker.worn[line] + 1);
                walker.step();
            }
            endless = walker.isEndless();
            for (int line = 0; line < walker.programme.lines; line++) {
                if (over[line] > often[line]) {
                    often[line] = over[line];
                    by[line] = input;
                }
            }
        }
    }

    /** The cheapest laying: for each LINE and room, what it and all LINES behind it cost at least. */
    private static final class Layout {
        private Programme programme;
        private final int[] peak = new int[LINES];
        private final int[][] least = new int[LINES + 1][ROOM + 1];
        int stuff;
        int twins;

        Layout(Programme empty) {
            programme = empty;
        }

        void make(Programme of, int[] peaks) {
            programme = of;
            System.arraycopy(peaks, 0, peak, 0, LINES);
            Arrays.fill(least[programme.lines], 0);
            for (int line = programme.lines - 1; line >= 0; line--) {
                for (int room = 0; room <= ROOM; room++) {
                    least[line][room] = find(line, room);
                }
            }
        }

        int leastCost(int room) {
            return least[0][room] < DEAR ? least[0][room] : NONE;
        }

        /** The STUFF and TWINS of a LINE, as all LINES are laid within the room. */
        void choose(int room, int line) {
            int left = room;
            for (int i = 0; i <= line && left >= 0; i++) {
                find(i, left);
                left -= twins;
            }
        }

        // STUFFS, then TWINS, go up, so of equal prices the one that is due stays.
        private int find(int line, int room) {
            int best = DEAR;
            stuff = NONE;
            twins = 0;
            for (int s = 0; s < programme.stuffs; s++) {
                for (int t = 1; t <= TWINS && t <= room; t++) {
                    int price = programme.costs[s] * t + least[line + 1][room - t];
                    if (programme.bears[s] * t >= peak[line] && price < best) {
                        best = price;
                        stuff = s;
                        twins = t;
                    }
                }
            }
            return best;
        }
    }
}
