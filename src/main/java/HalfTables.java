import java.util.Arrays;

/** Two multipliers side by side: one by a table of quarters of squares, one by shifts and additions. */
public final class HalfTables {
    /** There is no such thing. */
    public static final int NONE = -1;

    private static final int MIN_WIDTH = 3;
    private static final int MAX_WIDTH = 8;
    private static final int MAX_ENTRIES = 511;
    private static final int HIGHEST_BIT = 16;

    private static final int READING = 0;
    private static final int ADDITION = 1;
    private static final int SHIFT = 2;
    private static final int COSTS = 3;
    private static final int MAX_COST = 50;

    private static final int BY_TABLE = 0;
    private static final int BY_SHIFTS = 1;
    private static final int RECODED = 2;

    private static final int MAX_PLACES = 16;
    private static final int DOWN = 0;
    private static final int NEAREST_GREATER = 1;
    private static final int NEAREST_EVEN = 2;

    private static final int REGISTERS = 8;
    private static final int MAX_SHIFT = 31;
    private static final int MAX_SAVED = 4;
    private static final int MAX_TEXT = 100;
    private static final int MAX_BYTE = 127;

    /** The shortest statement has four bytes. */
    private static final int MAX_STATEMENTS = 25;
    private static final int MAX_DIGITS = 3;
    private static final int MAX_NUMBER = 255;

    private static final int LAST_VALUE = 7;
    private static final int LAST_ABOUT_ENTRY = 4;

    private final State now;
    private final History history;
    private final Program program;

    /** For each entry the wrong pairs that read it, as counted last. */
    private final int[] wrongReadings;

    public HalfTables() {
        now = new State();
        history = new History();
        program = new Program();
        wrongReadings = new int[MAX_ENTRIES];
    }

    // ---- table

    public int setWidth(int width) throws IllegalArgumentException {
        demandRange(width, MIN_WIDTH, MAX_WIDTH);
        history.keep(now);
        int wrong = now.wrongEntries();
        now.start(width);
        return wrong;
    }

    public int setCost(int what, int cost) throws IllegalArgumentException {
        demandRange(what, 0, COSTS - 1);
        demandRange(cost, 1, MAX_COST);
        history.keep(now);
        int previous = now.costs[what];
        now.costs[what] = cost;
        return previous;
    }

    public int flip(int entry, int bit) throws IndexOutOfBoundsException, IllegalArgumentException {
        demandEntry(entry);
        demandRange(bit, 0, HIGHEST_BIT);
        history.keep(now);
        now.stored[entry] ^= 1 << bit;
        return now.stored[entry];
    }

    public int repair(int entry) throws IndexOutOfBoundsException {
        demandEntry(entry);
        history.keep(now);
        int wrong = now.wrongBits(entry);
        now.stored[entry] = trueValue(entry);
        return wrong;
    }

    public int repairByParity() {
        history.keep(now);
        int repaired = 0;
        for (int n = 0; n < now.entries(); n++) {
            if (!now.hasStoredParity(n)) {
                now.stored[n] = trueValue(n);
                repaired++;
            }
        }
        return repaired;
    }

    // ---- registers

    public int setRegister(int register, int value) throws IndexOutOfBoundsException, IllegalArgumentException {
        demandRegister(register);
        demandOperand(value);
        history.keep(now);
        int previous = now.registers[register];
        now.registers[register] = value;
        return previous;
    }

    public long clearAccount() {
        history.keep(now);
        long previous = now.account;
        now.account = 0;
        return previous;
    }

    // ---- multiplying

    public int multiply(int a, int b, int method) throws IllegalArgumentException {
        demandOperand(a);
        demandOperand(b);
        demandMethod(method);
        return now.product(a, b, method);
    }

    public int cost(int a, int b, int method) throws IllegalArgumentException {
        demandOperand(a);
        demandOperand(b);
        demandMethod(method);
        return now.price(b, method);
    }

    public int cheapest(int a, int b) throws IllegalArgumentException {
        demandOperand(a);
        demandOperand(b);
        int best = BY_SHIFTS;
        if (now.price(b, RECODED) < now.price(b, best)) {
            best = RECODED;
        }
        boolean tableIsAsCheap = now.price(b, BY_TABLE) <= now.price(b, best);
        return tableIsAsCheap && !now.isWrongPair(a, b) ? BY_TABLE : best;
    }

    public int fraction(int a, int b, int method, int places, int way) throws IllegalArgumentException {
        demandOperand(a);
        demandOperand(b);
        demandMethod(method);
        demandRange(places, 0, MAX_PLACES);
        demandRange(way, DOWN, NEAREST_EVEN);
        return rounded(now.product(a, b, method), places, way);
    }

    public double error(int a, int b, int places, int way) throws IllegalArgumentException {
        demandOperand(a);
        demandOperand(b);
        demandRange(places, 0, MAX_PLACES);
        demandRange(way, DOWN, NEAREST_EVEN);
        int product = now.product(a, b, BY_SHIFTS);
        double exact = (double) (a * b) / (double) (1 << places);
        return (double) rounded(product, places, way) - exact;
    }

    // ---- values

    public int entry(int entry, int what) throws IndexOutOfBoundsException, IllegalArgumentException {
        demandEntry(entry);
        demandRange(what, 0, LAST_ABOUT_ENTRY);
        switch (what) {
            case 0:
                return now.stored[entry];
            case 1:
                return trueValue(entry);
            case 2:
                return parity(trueValue(entry));
            case 3:
                return now.hasStoredParity(entry) ? 1 : 0;
            default:
                return now.wrongBits(entry);
        }
    }

    public int register(int register) throws IndexOutOfBoundsException {
        demandRegister(register);
        return now.registers[register];
    }

    public int value(int what) throws IllegalArgumentException {
        demandRange(what, 0, LAST_VALUE);
        return now.number(what);
    }

    public long account() {
        return now.account;
    }

    // ---- checks

    public int wrongPairs() {
        return countWrongPairs();
    }

    public int wrongPairsWith(int entry) throws IndexOutOfBoundsException {
        demandEntry(entry);
        countWrongPairs();
        return wrongReadings[entry];
    }

    public int firstWrong() {
        return now.firstWrongPair();
    }

    public int suspect() {
        countWrongPairs();
        int found = NONE;
        int most = 0;
        for (int n = 0; n < now.entries(); n++) {
            if (wrongReadings[n] > most) {
                most = wrongReadings[n];
                found = n;
            }
        }
        return found;
    }

    public int cheaperPairs(int method, int other) throws IllegalArgumentException {
        demandMethod(method);
        demandMethod(other);
        int operands = now.greatest() + 1;
        int pairs = 0;
        for (int b = 0; b < operands; b++) {
            // No cost depends on a: all pairs with this b are alike.
            if (now.price(b, method) < now.price(b, other)) {
                pairs += operands;
            }
        }
        return pairs;
    }

    // ---- text

    public int append(int value) throws IllegalArgumentException, IllegalStateException {
        demandRange(value, 0, MAX_BYTE);
        if (program.length >= MAX_TEXT) {
            throw new IllegalStateException("the text is full");
        }
        program.bytes[program.length] = value;
        program.length++;
        return program.length;
    }

    public int clearText() {
        int previous = program.length;
        program.length = 0;
        return previous;
    }

    public int run() {
        int position = program.parse();
        if (position != NONE) {
            return -10 - position;
        }
        history.keep(now);
        int total = 0;
        for (int i = 0; i < program.statements; i++) {
            total += now.execute(program.targets[i], program.signs[i], program.firsts[i], program.seconds[i]);
        }
        now.account += total;
        return total;
    }

    // ---- state

    public int undo() throws IllegalStateException {
        if (history.count == 0) {
            throw new IllegalStateException("there is no saved state");
        }
        history.restore(now);
        return history.count;
    }

    public long digest() {
        long h = 31L * 3833L + program.length;
        for (int what = 0; what <= LAST_VALUE; what++) {
            h = 31 * h + now.number(what);
        }
        h = 31 * h + now.account;
        for (int i = 0; i < REGISTERS; i++) {
            h = 31 * h + now.registers[i];
        }
        for (int n = 0; n < now.entries(); n++) {
            h = 31 * h + now.stored[n];
        }
        h = 31 * h + now.firstWrongPair();
        return 31 * h + history.count;
    }

    // ---- inside

    /** Counts the wrong pairs, and for each entry those of them that read it. */
    private int countWrongPairs() {
        Arrays.fill(wrongReadings, 0);
        if (now.wrongEntries() == 0) {
            return 0;
        }
        int pairs = 0;
        for (int a = 0; a <= now.greatest(); a++) {
            for (int b = 0; b <= a; b++) {
                if (now.isWrongPair(a, b)) {
                    // a, b and b, a read the same entries. Both entries differ:
                    // where they are one, a or b is 0 and the difference is right.
                    int orders = a == b ? 1 : 2;
                    pairs += orders;
                    wrongReadings[a + b] += orders;
                    wrongReadings[a - b] += orders;
                }
            }
        }
        return pairs;
    }

    private void demandEntry(int entry) throws IndexOutOfBoundsException {
        if (entry < 0 || entry >= now.entries()) {
            throw new IndexOutOfBoundsException("there is no such entry");
        }
    }

    private static void demandRegister(int register) throws IndexOutOfBoundsException {
        if (register < 0 || register >= REGISTERS) {
            throw new IndexOutOfBoundsException("there is no such register");
        }
    }

    private void demandOperand(int number) throws IllegalArgumentException {
        demandRange(number, 0, now.greatest());
    }

    private static void demandMethod(int method) throws IllegalArgumentException {
        demandRange(method, BY_TABLE, RECODED);
    }

    private static void demandRange(int number, int least, int greatest) throws IllegalArgumentException {
        if (number < least || number > greatest) {
            throw new IllegalArgumentException("an argument is out of range");
        }
    }

    private static int trueValue(int entry) {
        return entry * entry / 4;
    }

    private static int parity(int number) {
        return Integer.bitCount(number) & 1;
    }

    /** The shift rounds down for negative products too, so the rest is never negative. */
    private static int rounded(int product, int places, int way) {
        int whole = 1 << places;
        int down = product >> places;
        int twiceRest = 2 * (product - down * whole);
        if (way == DOWN || twiceRest < whole) {
            return down;
        }
        if (way == NEAREST_GREATER || twiceRest > whole) {
            return down + 1;
        }
        return down + (down & 1);
    }

    /** All that an undo brings back. */
    private static final class State {
        int width;
        long account;
        final int[] costs;
        final int[] stored;
        final int[] registers;

        State() {
            costs = new int[COSTS];
            costs[READING] = 4;
            costs[ADDITION] = 2;
            costs[SHIFT] = 1;
            stored = new int[MAX_ENTRIES];
            registers = new int[REGISTERS];
            start(MAX_WIDTH);
        }

        void start(int newWidth) {
            width = newWidth;
            account = 0;
            for (int n = 0; n < entries(); n++) {
                stored[n] = trueValue(n);
            }
            Arrays.fill(registers, 0);
        }

        void copyFrom(State other) {
            width = other.width;
            account = other.account;
            System.arraycopy(other.costs, 0, costs, 0, COSTS);
            System.arraycopy(other.stored, 0, stored, 0, MAX_ENTRIES);
            System.arraycopy(other.registers, 0, registers, 0, REGISTERS);
        }

        /** The greatest operand; its bits are the lowest bits that the width takes. */
        int greatest() {
            return (1 << width) - 1;
        }

        int entries() {
            return 2 * greatest() + 1;
        }

        int wrongBits(int n) {
            return Integer.bitCount(stored[n] ^ trueValue(n));
        }

        boolean hasStoredParity(int n) {
            return parity(stored[n]) == parity(trueValue(n));
        }

        int wrongEntries() {
            int wrong = 0;
            for (int n = 0; n < entries(); n++) {
                if (stored[n] != trueValue(n)) {
                    wrong++;
                }
            }
            return wrong;
        }

        int entriesFoundByParity() {
            int found = 0;
            for (int n = 0; n < entries(); n++) {
                if (!hasStoredParity(n)) {
                    found++;
                }
            }
            return found;
        }

        int allWrongBits() {
            int wrong = 0;
            for (int n = 0; n < entries(); n++) {
                wrong += wrongBits(n);
            }
            return wrong;
        }

        int number(int what) {
            switch (what) {
                case 0:
                    return width;
                case 1:
                    return entries();
                case 2:
                    return costs[READING];
                case 3:
                    return costs[ADDITION];
                case 4:
                    return costs[SHIFT];
                case 5:
                    return wrongEntries();
                case 6:
                    return entriesFoundByParity();
                default:
                    return allWrongBits();
            }
        }

        /** Flipped bits reach the table's product alone; both other methods give a * b. */
        int product(int a, int b, int method) {
            return method == BY_TABLE ? stored[a + b] - stored[Math.abs(a - b)] : a * b;
        }

        boolean isWrongPair(int a, int b) {
            return product(a, b, BY_TABLE) != a * b;
        }

        int firstWrongPair() {
            if (wrongEntries() == 0) {
                return NONE;
            }
            for (int a = 0; a <= greatest(); a++) {
                for (int b = 0; b <= greatest(); b++) {
                    if (isWrongPair(a, b)) {
                        return 1000 * a + b;
                    }
                }
            }
            return NONE;
        }

        int price(int b, int method) {
            if (method == BY_TABLE) {
                return 2 * costs[READING] + 3 * costs[ADDITION];
            }
            // A power is used in the recoded sum where two neighbouring bits of b differ.
            return powersPrice(method == BY_SHIFTS ? b : b ^ (b << 1));
        }

        /** The price of a sum of powers of 2, given as a number with a bit for each power. */
        private int powersPrice(int powers) {
            int highest = 0;
            for (int k = 1; k <= MAX_WIDTH; k++) {
                if ((powers >> k & 1) == 1) {
                    highest = k;
                }
            }
            return Integer.bitCount(powers) * costs[ADDITION] + highest * costs[SHIFT];
        }

        /** Runs a statement; with the sign = the first operand is the number itself. Returns the cost. */
        int execute(int target, int sign, int first, int second) {
            if (sign == '=') {
                registers[target] = first & greatest();
                return 0;
            }
            int left = registers[first];
            int right = registers[second];
            registers[target] = result(left, sign, right) & greatest();
            return statementPrice(sign, right);
        }

        private int result(int left, int sign, int right) {
            switch (sign) {
                case '+':
                    return left + right;
                case '-':
                    return left - right;
                case '>':
                    return left >> Math.min(right, MAX_SHIFT);
                default:
                    return product(left, right, methodOf(sign));
            }
        }

        private int statementPrice(int sign, int right) {
            switch (sign) {
                case '+':
                case '-':
                    return costs[ADDITION];
                case '>':
                    return Math.min(right, MAX_SHIFT) * costs[SHIFT];
                default:
                    return price(right, methodOf(sign));
            }
        }

        private static int methodOf(int sign) {
            switch (sign) {
                case '*':
                    return BY_TABLE;
                case 'x':
                    return BY_SHIFTS;
                default:
                    return RECODED;
            }
        }
    }

    /** The saved states, in a ring of rows that are used again. */
    private static final class History {
        int count;
        private int next;
        private final State[] saved;

        History() {
            saved = new State[MAX_SAVED];
            for (int i = 0; i < MAX_SAVED; i++) {
                saved[i] = new State();
            }
        }

        void keep(State state) {
            saved[next].copyFrom(state);
            next = (next + 1) % MAX_SAVED;
            count = Math.min(count + 1, MAX_SAVED);
        }

        /** Is called only when there is a saved state. */
        void restore(State state) {
            next = (next + MAX_SAVED - 1) % MAX_SAVED;
            count--;
            state.copyFrom(saved[next]);
        }
    }

    /** The text, and its statements in rows as they were parsed last. */
    private static final class Program {
        // What is to stand at the next byte.
        private static final int TARGET = 0;
        private static final int EQUALS = 1;
        private static final int OPERAND = 2;
        private static final int NUMBER = 3;
        private static final int SIGN = 4;
        private static final int SECOND = 5;
        private static final int SEMICOLON = 6;

        final int[] bytes;
        int length;

        final int[] targets;
        final int[] signs;
        final int[] firsts;
        final int[] seconds;
        int statements;

        private int place;
        private int digits;
        private int target;
        private int sign;
        private int first;
        private int second;

        Program() {
            bytes = new int[MAX_TEXT];
            targets = new int[MAX_STATEMENTS];
            signs = new int[MAX_STATEMENTS];
            firsts = new int[MAX_STATEMENTS];
            seconds = new int[MAX_STATEMENTS];
        }

        /** Parses the text into the rows. Returns the syntax error position, or NONE. */
        int parse() {
            statements = 0;
            place = TARGET;
            for (int at = 0; at < length; at++) {
                int wrongAt = place == NUMBER ? readInNumber(at) : read(at);
                if (wrongAt != NONE) {
                    return wrongAt;
                }
            }
            return place == TARGET ? NONE : positionOfEarlyEnd();
        }

        private int positionOfEarlyEnd() {
            return place == NUMBER && first > MAX_NUMBER ? length - digits : length;
        }

        private int readInNumber(int at) {
            int value = bytes[at];
            if (isDigit(value)) {
                return takeDigit(value) ? NONE : at;
            }
            if (first > MAX_NUMBER) {
                return at - digits;
            }
            return takeSemicolon(value) ? NONE : at;
        }

        private int read(int at) {
            return take(bytes[at]) ? NONE : at;
        }

        /** Takes a byte outside a number, if it can stand here. */
        private boolean take(int value) {
            switch (place) {
                case TARGET:
                    target = value - 'a';
                    place = EQUALS;
                    return isLetter(value);
                case EQUALS:
                    place = OPERAND;
                    return value == '=';
                case OPERAND:
                    return takeOperand(value);
                case SIGN:
                    sign = value;
                    place = SECOND;
                    return isSign(value);
                case SECOND:
                    second = value - 'a';
                    place = SEMICOLON;
                    return isLetter(value);
                default:
                    return takeSemicolon(value);
            }
        }

        private boolean takeOperand(int value) {
            if (isDigit(value)) {
                sign = '=';
                first = 0;
                second = 0;
                digits = 0;
                place = NUMBER;
                return takeDigit(value);
            }
            first = value - 'a';
            place = SIGN;
            return isLetter(value);
        }

        private boolean takeDigit(int value) {
            if (digits >= MAX_DIGITS) {
                return false;
            }
            first = 10 * first + value - '0';
            digits++;
            return true;
        }

        private boolean takeSemicolon(int value) {
            if (value != ';' || statements >= MAX_STATEMENTS) {
                return false;
            }
            targets[statements] = target;
            signs[statements] = sign;
            firsts[statements] = first;
            seconds[statements] = second;
            statements++;
            place = TARGET;
            return true;
        }

        private static boolean isLetter(int value) {
            return value >= 'a' && value <= 'h';
        }

        private static boolean isDigit(int value) {
            return value >= '0' && value <= '9';
        }

        private static boolean isSign(int value) {
            switch (value) {
                case '*':
                case 'x':
                case '#':
                case '+':
                case '-':
                case '>':
                    return true;
                default:
                    return false;
            }
        }
    }
}
