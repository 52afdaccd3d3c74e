import java.util.Arrays;

/**
 * A compiler of kernels for eight lanes that go in step, and for each lane alone.
 * The promises are numbered in ../shared/DOC.md.
 */
public final class LaneDesk {
    private static final int MOST_TEXT = 160;
    private static final int MOST_TYPED = 8;
    private static final int LOWEST_CHARACTER = 33;
    private static final int HIGHEST_CHARACTER = 126;
    private static final int MOST_DIGITS = 3;
    private static final int MOST_BRACKETS = 4;
    private static final int MOST_BLOCKS = 4;
    /** No statement takes fewer than two characters for each of its steps: R; or ?1{} or ?1{}{} or *1{}. */
    private static final int MOST_STEPS = MOST_TEXT / 2;

    private static final int LANES = 8;
    private static final int ALL_LANES = 255;
    private static final int VARIABLES = 8;
    private static final int CELLS = 8;
    private static final int INPUTS = 16;
    private static final int MOST_KEPT = 20;
    private static final int MOST_FUEL_IN_STEP = 500;
    private static final int MOST_FUEL_ALONE = 4000;

    private static final int FINE = 0;
    private static final int SYNTAX = 1;
    private static final int PARTED = 2;
    private static final int NOWHERE = -1;

    private static final int GIVE = 0;
    private static final int PUT = 1;
    private static final int STORE = 2;
    private static final int EXCHANGE = 3;
    private static final int DONE = 4;
    private static final int IF = 5;
    private static final int WHILE = 6;
    /** The steps from here on stand for a closing brace: they are never issued and cost nothing. */
    private static final int ELSE = 7;
    private static final int END_IF = 8;
    private static final int AGAIN = 9;

    /** The kinds of item that are no sign of the text themselves. */
    private static final int NUMBER = '0';
    private static final int VARIABLE = 'a';
    /** Beside the bits of the variables that an expression names: n or an own cell is in it. */
    private static final int NAMES_OWN = 1 << VARIABLES;

    private final Reader reader = new Reader();
    private Kernel kernel = new Kernel();
    private boolean hasKernel = false;
    private int wrongPlace = NOWHERE;
    private final int[] inputs = new int[INPUTS];
    private int takingPart = LANES;
    private final Together together = new Together();
    private final Apart apart = new Apart();

    public LaneDesk() {
    }

    public int type(long text, int n) throws IllegalArgumentException, IllegalStateException {
        if (n < 1 || n > MOST_TYPED || !isTypable(text, n)) {
            throw new IllegalArgumentException("1 to 8 characters, each 33 to 126");
        }
        if (!reader.append(text, n)) {
            throw new IllegalStateException("a text has at most 160 characters");
        }
        return reader.length;
    }

    public void clear() {
        reader.forget();
    }

    public int compile() {
        if (!reader.read()) {
            wrongPlace = reader.at;
            return SYNTAX;
        }
        wrongPlace = reader.draft.findVarying();
        if (wrongPlace != NOWHERE) {
            return PARTED;
        }
        kernel = reader.handOver(kernel);
        hasKernel = true;
        together.started = false;
        apart.finished = false;
        return FINE;
    }

    public int place() {
        return wrongPlace;
    }

    public boolean varies(int v) throws IllegalStateException, IllegalArgumentException {
        needKernel();
        if (v < 0 || v >= VARIABLES) {
            throw new IllegalArgumentException("no such variable");
        }
        return isIn(kernel.varying, v);
    }

    public void input(int i, int v) throws IllegalArgumentException, IllegalStateException {
        if (i < 0 || i >= INPUTS) {
            throw new IllegalArgumentException("no such input");
        }
        needNothingUnderWay();
        inputs[i] = v;
    }

    public void lanes(int n) throws IllegalArgumentException, IllegalStateException {
        if (n < 1 || n > LANES) {
            throw new IllegalArgumentException("1 to 8 lanes");
        }
        needNothingUnderWay();
        takingPart = n;
    }

    public void start() throws IllegalStateException {
        needKernel();
        together.begin(kernel, inputs, takingPart);
    }

    public int run(int fuel) throws IllegalStateException, IllegalArgumentException {
        needStarted();
        needFuel(fuel, MOST_FUEL_IN_STEP);
        together.goOn(kernel, fuel);
        return together.over ? 1 : 0;
    }

    public int mask() {
        return together.started ? together.masked : 0;
    }

    public int spent(int what) throws IllegalArgumentException, IllegalStateException {
        if (what < 0 || what > 1) {
            throw new IllegalArgumentException("no such what");
        }
        needStarted();
        return what == 0 ? together.issued : together.busy;
    }

    public int alone(int fuel) throws IllegalStateException, IllegalArgumentException {
        needKernel();
        needFuel(fuel, MOST_FUEL_ALONE);
        apart.begin(inputs, takingPart, fuel);
        apart.goThrough(kernel);
        return apart.finished ? 1 : 0;
    }

    public int lane(boolean alone, int lane, int what) throws IllegalArgumentException, IllegalStateException {
        if (what < 0 || what > 2) {
            throw new IllegalArgumentException("no such what");
        }
        Crew crew = crewOf(alone, lane);
        if (what == 0) {
            return crew.countOf(lane);
        }
        if (what == 1) {
            return crew.trapOf(lane);
        }
        boolean atItsEnd = alone || together.over;
        return atItsEnd || isIn(crew.stopped, lane) ? 1 : 0;
    }

    public int out(boolean alone, int lane, int k)
            throws IllegalArgumentException, IllegalStateException, IndexOutOfBoundsException {
        Crew crew = crewOf(alone, lane);
        if (k < 0 || k >= MOST_KEPT || k >= crew.countOf(lane)) {
            throw new IndexOutOfBoundsException("no such number, or it was not kept");
        }
        return crew.keptOf(lane, k);
    }

    public int cell(boolean alone, int lane, int k) throws IllegalArgumentException, IllegalStateException {
        if (k < 0 || k >= CELLS + VARIABLES) {
            throw new IllegalArgumentException("no such cell or variable");
        }
        Crew crew = crewOf(alone, lane);
        return k < CELLS ? crew.cellOf(lane, k) : crew.variableOf(lane, k - CELLS);
    }

    private void needKernel() {
        if (!hasKernel) {
            throw new IllegalStateException("there is no kernel");
        }
    }

    private void needStarted() {
        if (!together.started) {
            throw new IllegalStateException("the run in step is not started");
        }
    }

    private void needNothingUnderWay() {
        if (together.started && !together.over) {
            throw new IllegalStateException("the run in step is not over");
        }
    }

    private static void needFuel(int fuel, int most) {
        if (fuel < 1 || fuel > most) {
            throw new IllegalArgumentException("so much fuel can't be given");
        }
    }

    private Crew crewOf(boolean alone, int lane) {
        if (lane < 0 || lane >= LANES) {
            throw new IllegalArgumentException("no such lane");
        }
        if (alone ? !apart.finished : !together.started) {
            throw new IllegalStateException("not started, or no results");
        }
        return alone ? apart.crew : together.crew;
    }

    private static boolean isTypable(long text, int n) {
        for (int k = 0; k < n; k++) {
            int character = byteOf(text, k);
            if (character < LOWEST_CHARACTER || character > HIGHEST_CHARACTER) {
                return false;
            }
        }
        return true;
    }

    /** Byte k of a word, the lowest one being 0. */
    private static int byteOf(long word, int k) {
        return (int) (word >>> 8 * k) & 255;
    }

    private static boolean isIn(int bits, int k) {
        return (bits >> k & 1) != 0;
    }

    /** Where entry k (0 .. 7) of a lane (0 .. 7) is in a row of eight for each; never outside that row. */
    private static int slot(int lane, int k) {
        return (lane & 7) * 8 + (k & 7);
    }

    /** One statement, or a closing brace, of a kernel. */
    private static final class Step {
        int kind;
        int where;
        /** In how many blocks it stands; a closing brace has the number of its ? or *. */
        int level;
        /** Of ? { and of } {: the last closing brace. */
        int end;
        /** Of ? and *: the closing brace behind which a lane goes on whose E is 0. Of the } of a *: the *. */
        int other;
        int v;
        int w;
        /** The first expression's items are from .. middle - 1, the second one's middle .. to - 1. */
        int from;
        int middle;
        int to;
        /** What E names: a bit for each variable, and NAMES_OWN. */
        int named;

        /** The rest is set by the reader where it is used; only other is looked at before that. */
        void set(int newKind, int newWhere, int newLevel) {
            kind = newKind;
            where = newWhere;
            level = newLevel;
            other = 0;
        }

        boolean isIssued() {
            return kind < ELSE;
        }
    }

    /** The steps of a text in its order, and the items of all expressions, each operand before its operator. */
    private static final class Kernel {
        private final Step[] rows = new Step[MOST_STEPS];
        private final int[] kinds = new int[MOST_TEXT];
        private final int[] values = new int[MOST_TEXT];
        int steps = 0;
        int items = 0;
        int varying = 0;

        Kernel() {
            for (int k = 0; k < MOST_STEPS; k++) {
                rows[k] = new Step();
            }
        }

        void empty() {
            steps = 0;
            items = 0;
        }

        Step addStep(int kind, int where, int level) {
            int row = Math.min(steps, MOST_STEPS - 1);
            steps = row + 1;
            rows[row].set(kind, where, level);
            return rows[row];
        }

        void addItem(int kind, int value) {
            if (items < MOST_TEXT) {
                kinds[items] = kind;
                values[items] = value;
                items++;
            }
        }

        Step stepAt(int k) {
            return rows[k >= 0 && k < MOST_STEPS ? k : 0];
        }

        int kindAt(int item) {
            return item >= 0 && item < MOST_TEXT ? kinds[item] : NUMBER;
        }

        int valueAt(int item) {
            return item >= 0 && item < MOST_TEXT ? values[item] : 0;
        }

        /** Finds what varies, and then the first X that stands where lanes may be parted (its place or NOWHERE). */
        int findVarying() {
            varying = 0;
            int partedPlace = NOWHERE;
            // Each round but the last finds a variable more; only the last one has seen them all.
            for (int round = 0; round <= VARIABLES; round++) {
                int known = varying;
                partedPlace = spread();
                if (varying == known) {
                    break;
                }
            }
            return partedPlace;
        }

        private int spread() {
            int partedLevels = 0;
            int partedPlace = NOWHERE;
            for (int k = 0; k < steps; k++) {
                Step step = stepAt(k);
                boolean differs = (step.named & (varying | NAMES_OWN)) != 0;
                switch (step.kind) {
                    case IF:
                    case WHILE:
                        partedLevels |= differs ? 1 << step.level : 0;
                        break;
                    case END_IF:
                    case AGAIN:
                        partedLevels &= ~(1 << step.level);
                        break;
                    case GIVE:
                        varying |= differs || partedLevels != 0 ? 1 << step.v : 0;
                        break;
                    case EXCHANGE:
                        varying |= 1 << step.v;
                        if (partedLevels != 0 && partedPlace == NOWHERE) {
                            partedPlace = step.where;
                        }
                        break;
                    default:
                        break;
                }
            }
            return partedPlace;
        }
    }

    /** The text that is typed, and what it is read to. Where reading fails, at is the place that is wrong. */
    private static final class Reader {
        private final int[] text = new int[MOST_TEXT];
        int length = 0;
        int at = 0;
        Kernel draft = new Kernel();
        /** The ? or * of each block that is open. */
        private final int[] heads = new int[MOST_BLOCKS];
        private int blocks = 0;
        private int named = 0;

        boolean append(long characters, int n) {
            if (n > MOST_TEXT - length) {
                return false;
            }
            for (int k = n - 1; k >= 0 && length < MOST_TEXT; k--) {
                text[length] = byteOf(characters, k);
                length++;
            }
            return true;
        }

        void forget() {
            length = 0;
        }

        /** Gives away what was read, and takes a kernel that is used no more to read into. */
        Kernel handOver(Kernel unused) {
            Kernel ready = draft;
            draft = unused;
            return ready;
        }

        boolean read() {
            at = 0;
            blocks = 0;
            draft.empty();
            for (int taken = 0; taken <= length; taken++) {
                if (at >= length) {
                    return blocks == 0;
                }
                if (blocks > 0 && next() == '}') {
                    closeBlock();
                } else if (!readStatement()) {
                    return false;
                }
            }
            return false;
        }

        private int next() {
            return at >= 0 && at < length ? text[at] : NOWHERE;
        }

        private boolean take(int sign) {
            if (at < 0 || at >= length || text[at] != sign) {
                return false;
            }
            at++;
            return true;
        }

        private boolean readStatement() {
            int kind = kindFor(next());
            if (kind == NOWHERE) {
                return false;
            }
            int row = draft.steps;
            Step step = draft.addStep(kind, at, blocks);
            if (!readHead(step)) {
                return false;
            }
            switch (kind) {
                case DONE:
                    return take(';');
                case STORE:
                    return readStoring(step) && take(';');
                case IF:
                case WHILE:
                    return readWhole(step) && openBlock(row);
                default:
                    return readWhole(step) && take(';');
            }
        }

        private static int kindFor(int first) {
            switch (first) {
                case 'O':
                    return PUT;
                case 'L':
                    return STORE;
                case 'X':
                    return EXCHANGE;
                case 'R':
                    return DONE;
                case '?':
                    return IF;
                case '*':
                    return WHILE;
                default:
                    return isVariable(first) ? GIVE : NOWHERE;
            }
        }

        /** What stands before a statement's expressions. */
        private boolean readHead(Step step) {
            if (step.kind == GIVE) {
                step.v = next() - 'a';
                at++;
                return take('=');
            }
            at++;
            if (step.kind == EXCHANGE) {
                step.v = takeVariable();
                step.w = step.v == NOWHERE ? NOWHERE : takeVariable();
                return step.w != NOWHERE;
            }
            return true;
        }

        private int takeVariable() {
            int sign = next();
            if (!isVariable(sign)) {
                return NOWHERE;
            }
            at++;
            return sign - 'a';
        }

        private boolean readStoring(Step step) {
            step.from = draft.items;
            if (!take('[') || !readExpression(1) || !take(']')) {
                return false;
            }
            step.middle = draft.items;
            if (!take('=') || !readExpression(0)) {
                return false;
            }
            step.to = draft.items;
            return true;
        }

        private boolean openBlock(int row) {
            if (blocks >= MOST_BLOCKS || !take('{')) {
                return false;
            }
            heads[blocks] = row;
            blocks++;
            return true;
        }

        private void closeBlock() {
            if (blocks < 1 || blocks > MOST_BLOCKS) {
                return;
            }
            int level = blocks - 1;
            int row = heads[level];
            Step head = draft.stepAt(row);
            int brace = draft.steps;
            int where = at;
            at++;
            // No brace is step 0, so 0 tells that there is no second block yet.
            if (head.kind == IF && head.other == 0 && take('{')) {
                draft.addStep(ELSE, where, level);
                head.other = brace;
                return;
            }
            blocks = level;
            draft.addStep(head.kind == IF ? END_IF : AGAIN, where, level).other = row;
            head.end = brace;
            if (head.other == 0) {
                head.other = brace;
            } else {
                draft.stepAt(head.other).end = brace;
            }
        }

        /** A statement's only expression. */
        private boolean readWhole(Step step) {
            named = 0;
            step.from = draft.items;
            if (!readExpression(0)) {
                return false;
            }
            step.middle = draft.items;
            step.to = draft.items;
            step.named = named;
            return true;
        }

        private boolean readExpression(int brackets) {
            if (!readTerm(brackets)) {
                return false;
            }
            for (int taken = 0; taken < length; taken++) {
                int operator = next();
                if (!isOperator(operator)) {
                    return true;
                }
                at++;
                if (!readTerm(brackets)) {
                    return false;
                }
                draft.addItem(operator, 0);
            }
            return true;
        }

        private boolean readTerm(int brackets) {
            int first = next();
            if (isDigit(first)) {
                draft.addItem(NUMBER, readNumber());
                return true;
            }
            if (isVariable(first)) {
                at++;
                named |= 1 << (first - 'a');
                draft.addItem(VARIABLE, first - 'a');
                return true;
            }
            if (first == '(') {
                return readBracket('(', ')', brackets);
            }
            if (first != 'n' && first != 'I' && first != 'L') {
                return false;
            }
            at++;
            named |= first == 'I' ? 0 : NAMES_OWN;
            if (first != 'n' && !readBracket('[', ']', brackets)) {
                return false;
            }
            draft.addItem(first, 0);
            return true;
        }

        /** A bracket that is one too many is wrong at its own place, so it is not taken. */
        private boolean readBracket(int opening, int closing, int brackets) {
            return brackets < MOST_BRACKETS && take(opening) && readExpression(brackets + 1) && take(closing);
        }

        private int readNumber() {
            int number = 0;
            for (int digits = 0; digits < MOST_DIGITS && isDigit(next()); digits++) {
                number = number * 10 + next() - '0';
                at++;
            }
            return number;
        }

        private static boolean isVariable(int sign) {
            return sign >= 'a' && sign <= 'h';
        }

        private static boolean isDigit(int sign) {
            return sign >= '0' && sign <= '9';
        }

        private static boolean isOperator(int sign) {
            return sign == '+' || sign == '-' || sign == '*' || sign == '<' || sign == '=' || sign == '&';
        }
    }

    /** What eight lanes have, and what a statement does to them. */
    private static final class Crew {
        /** Four brackets keep at most five left operands waiting for one right operand. */
        private static final int PENDING = 8;

        private final int[] given = new int[INPUTS];
        private final int[] variables = new int[LANES * VARIABLES];
        private final int[] cells = new int[LANES * CELLS];
        private final int[] kept = new int[LANES * MOST_KEPT];
        private final int[] counts = new int[LANES];
        private final int[] traps = new int[LANES];
        private final int[] pending = new int[PENDING];
        private final int[] sources = new int[LANES];
        private final int[] heard = new int[LANES];
        private boolean trapped = false;
        int stopped = ALL_LANES;

        /** A copy of the inputs will do: they can't change before the run is over. */
        void gather(int[] inputs, int takingPart) {
            System.arraycopy(inputs, 0, given, 0, Math.min(inputs.length, INPUTS));
            Arrays.fill(variables, 0);
            Arrays.fill(cells, 0);
            Arrays.fill(counts, 0);
            Arrays.fill(traps, 0);
            stopped = ALL_LANES & ~((1 << takingPart) - 1);
        }

        int countOf(int lane) {
            return counts[lane & 7];
        }

        int trapOf(int lane) {
            return traps[lane & 7];
        }

        int keptOf(int lane, int k) {
            return k >= 0 && k < MOST_KEPT ? kept[(lane & 7) * MOST_KEPT + k] : 0;
        }

        int cellOf(int lane, int k) {
            return cells[slot(lane, k)];
        }

        int variableOf(int lane, int v) {
            return variables[slot(lane, v)];
        }

        /** The statements that concern one lane alone and open no block. */
        void act(Kernel kernel, Step step, int lane) {
            if (step.kind == DONE) {
                stopped |= 1 << lane;
                return;
            }
            trapped = false;
            int first = reckon(kernel, step.from, step.middle, lane);
            int second = reckon(kernel, step.middle, step.to, lane);
            trapped |= step.kind == STORE && isOutside(first, CELLS);
            if (trapped) {
                trap(step, lane);
            } else if (step.kind == GIVE) {
                variables[slot(lane, step.v)] = first;
            } else if (step.kind == PUT) {
                put(lane, first);
            } else if (step.kind == STORE) {
                cells[slot(lane, first)] = second;
            }
        }

        /** What the E of a ?, * or X is; 0 for a lane that it stops. */
        int decide(Kernel kernel, Step step, int lane) {
            trapped = false;
            int value = reckon(kernel, step.from, step.middle, lane);
            if (trapped) {
                trap(step, lane);
                return 0;
            }
            return value;
        }

        void exchange(Kernel kernel, Step step, int together) {
            for (int lane = 0; lane < LANES; lane++) {
                if (isIn(together, lane)) {
                    sources[lane] = Math.floorMod(decide(kernel, step, lane), LANES);
                }
            }
            int remaining = together & ~stopped;
            for (int lane = 0; lane < LANES; lane++) {
                int source = sources[lane];
                heard[lane] = isIn(remaining, source) ? variables[slot(source, step.w)] : 0;
            }
            for (int lane = 0; lane < LANES; lane++) {
                if (isIn(remaining, lane)) {
                    variables[slot(lane, step.v)] = heard[lane];
                }
            }
        }

        private void put(int lane, int number) {
            int count = counts[lane & 7];
            if (count >= 0 && count < MOST_KEPT) {
                kept[(lane & 7) * MOST_KEPT + count] = number;
            }
            counts[lane & 7] = count + 1;
        }

        private void trap(Step step, int lane) {
            traps[lane & 7] = step.where + 1;
            stopped |= 1 << lane;
        }

        /** The value of the items from .. to - 1; it counts only while trapped is not set. */
        private int reckon(Kernel kernel, int from, int to, int lane) {
            int top = 0;
            for (int item = from; item < to && !trapped; item++) {
                int kind = kernel.kindAt(item);
                switch (kind) {
                    case NUMBER:
                        top++;
                        pending[top & 7] = kernel.valueAt(item);
                        break;
                    case VARIABLE:
                        top++;
                        pending[top & 7] = variableOf(lane, kernel.valueAt(item));
                        break;
                    case 'n':
                        top++;
                        pending[top & 7] = lane;
                        break;
                    case 'I':
                        pending[top & 7] = inputAt(pending[top & 7]);
                        break;
                    case 'L':
                        pending[top & 7] = ownCellAt(lane, pending[top & 7]);
                        break;
                    default:
                        top--;
                        pending[top & 7] = joined(kind, pending[top & 7], pending[top + 1 & 7]);
                        break;
                }
            }
            return pending[top & 7];
        }

        private int inputAt(int k) {
            if (isOutside(k, INPUTS)) {
                trapped = true;
                return 0;
            }
            return given[k];
        }

        private int ownCellAt(int lane, int k) {
            if (isOutside(k, CELLS)) {
                trapped = true;
                return 0;
            }
            return cells[slot(lane, k)];
        }

        private static boolean isOutside(int k, int size) {
            return k < 0 || k >= size;
        }

        private static int joined(int operator, int left, int right) {
            switch (operator) {
                case '+':
                    return left + right;
                case '-':
                    return left - right;
                case '*':
                    return left * right;
                case '<':
                    return left < right ? 1 : 0;
                case '=':
                    return left == right ? 1 : 0;
                default:
                    return left & right;
            }
        }
    }

    /** The run in step. */
    private static final class Together {
        final Crew crew = new Crew();
        boolean started = false;
        boolean over = false;
        int masked = 0;
        int issued = 0;
        int busy = 0;
        private int here = 0;
        /** For each level, the lanes that came to its ? or *, and those that wait for its second block. */
        private final int[] before = new int[MOST_BLOCKS];
        private final int[] waiting = new int[MOST_BLOCKS];

        void begin(Kernel kernel, int[] inputs, int takingPart) {
            crew.gather(inputs, takingPart);
            Arrays.fill(before, 0);
            started = true;
            over = false;
            masked = ALL_LANES & ~crew.stopped;
            issued = 0;
            busy = 0;
            here = 0;
            moveToNext(kernel);
        }

        void goOn(Kernel kernel, int fuel) {
            for (int left = fuel; left > 0 && !over; left--) {
                issue(kernel, kernel.stepAt(here));
                moveToNext(kernel);
            }
        }

        private void issue(Kernel kernel, Step step) {
            issued++;
            busy += Integer.bitCount(masked);
            if (step.kind == IF || step.kind == WHILE) {
                part(kernel, step);
            } else if (step.kind == EXCHANGE) {
                crew.exchange(kernel, step, masked);
            } else {
                for (int lane = 0; lane < LANES; lane++) {
                    if (isIn(masked, lane)) {
                        crew.act(kernel, step, lane);
                    }
                }
            }
            masked &= ~crew.stopped;
            here++;
        }

        private void part(Kernel kernel, Step step) {
            int agreeing = 0;
            for (int lane = 0; lane < LANES; lane++) {
                if (isIn(masked, lane) && crew.decide(kernel, step, lane) != 0) {
                    agreeing |= 1 << lane;
                }
            }
            int level = step.level & 3;
            // A * that is issued again must not forget the lanes that have left it.
            before[level] |= masked;
            waiting[level] = masked & ~agreeing;
            masked = agreeing;
        }

        /** Goes to the next statement that has lanes, or to the end. */
        private void moveToNext(Kernel kernel) {
            // Going back to a * happens only with lanes, which ends the search there.
            for (int moves = 0; moves <= MOST_STEPS + 1; moves++) {
                if (here >= kernel.steps) {
                    break;
                }
                Step step = kernel.stepAt(here);
                if (step.isIssued() && masked != 0) {
                    return;
                }
                here = passOver(step);
            }
            over = true;
            masked = 0;
        }

        /** Answers which step is behind one that is not issued. */
        private int passOver(Step step) {
            int level = step.level & 3;
            switch (step.kind) {
                case IF:
                case WHILE:
                    return step.end + 1;
                case ELSE:
                    masked = waiting[level] & ~crew.stopped;
                    return here + 1;
                case END_IF:
                    comeTogether(level);
                    return here + 1;
                case AGAIN:
                    if (masked != 0) {
                        return step.other;
                    }
                    comeTogether(level);
                    return here + 1;
                default:
                    return here + 1;
            }
        }

        private void comeTogether(int level) {
            masked = before[level & 3] & ~crew.stopped;
            before[level & 3] = 0;
        }
    }

    /** The run of each lane alone. */
    private static final class Apart {
        final Crew crew = new Crew();
        boolean finished = false;
        private final int[] here = new int[LANES];
        private int left = 0;

        void begin(int[] inputs, int takingPart, int fuel) {
            crew.gather(inputs, takingPart);
            Arrays.fill(here, 0);
            left = fuel;
            finished = false;
        }

        /** Leaves finished unset when the fuel does not do. */
        void goThrough(Kernel kernel) {
            // Every round but the last has an X, which costs fuel.
            for (int round = 0; round <= MOST_FUEL_ALONE; round++) {
                for (int lane = 0; lane < LANES; lane++) {
                    if (!goesOn(kernel, lane)) {
                        return;
                    }
                }
                int atX = lanesAtX(kernel);
                if (atX == 0) {
                    finished = true;
                    return;
                }
                left -= Integer.bitCount(atX);
                if (left < 0) {
                    return;
                }
                exchange(kernel, atX);
            }
        }

        /** Whether the fuel does for a lane to come to a stop, to its end or to an X. */
        private boolean goesOn(Kernel kernel, int lane) {
            for (; left > 0; left--) {
                if (isHeld(kernel, lane)) {
                    return true;
                }
                here[lane & 7] = behindBraces(kernel, afterStep(kernel, lane));
            }
            return isHeld(kernel, lane);
        }

        private boolean isHeld(Kernel kernel, int lane) {
            int row = here[lane & 7];
            return isIn(crew.stopped, lane) || row >= kernel.steps || kernel.stepAt(row).kind == EXCHANGE;
        }

        /** A lane is never left at a closing brace, for that costs nothing. */
        private static int behindBraces(Kernel kernel, int from) {
            int row = from;
            for (int moves = 0; moves <= MOST_STEPS && row < kernel.steps; moves++) {
                Step step = kernel.stepAt(row);
                if (step.isIssued()) {
                    break;
                }
                if (step.kind == AGAIN) {
                    row = step.other;
                } else {
                    row = step.kind == ELSE ? step.end + 1 : row + 1;
                }
            }
            return row;
        }

        private int afterStep(Kernel kernel, int lane) {
            int row = here[lane & 7];
            Step step = kernel.stepAt(row);
            if (step.kind == IF || step.kind == WHILE) {
                return crew.decide(kernel, step, lane) != 0 ? row + 1 : step.other + 1;
            }
            crew.act(kernel, step, lane);
            return row + 1;
        }

        private int lanesAtX(Kernel kernel) {
            int atX = 0;
            for (int lane = 0; lane < LANES; lane++) {
                if (!isIn(crew.stopped, lane) && here[lane] < kernel.steps) {
                    atX |= 1 << lane;
                }
            }
            return atX;
        }

        /** No X stands where lanes may be parted, so all that are at one are at the same. */
        private void exchange(Kernel kernel, int atX) {
            int row = 0;
            for (int lane = 0; lane < LANES; lane++) {
                if (isIn(atX, lane)) {
                    row = here[lane];
                    here[lane] = behindBraces(kernel, row + 1);
                }
            }
            crew.exchange(kernel, kernel.stepAt(row), atX);
        }
    }
}
