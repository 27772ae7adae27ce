import java.util.Arrays;
import java.util.NoSuchElementException;

/**
 * Machines by description: a text tells the registers, the memories, the codes and the doings of a
 * machine's instructions; it's checked, made into a tree that decodes and a code that runs, and the
 * machine goes step by step.
 */
public final class MachineLoom {
    private static final int ROOM = 32768;
    private static final int MOST_THINGS = 64;
    private static final int MOST_CELLS = 65536;
    private static final int MOST_OPS = 512;
    private static final int MOST_LETS = 64;
    private static final int MOST_DEPTH = 60;
    private static final int MOST_WIDTH = 64;
    private static final int MOST_TRAP = 1000000;
    private static final int MOST_STEPS = 500;
    private static final int MOST_LETTERS = 32;
    // Two names never touch, so a full INPUT has at most one for every second character.
    private static final int MOST_SYMBOLS = ROOM / 2 + 64;
    // Between two marks that count in DEPTH stand at most eight signs, one for each binding.
    private static final int MOST_MARKS = 1024;
    // The shortest assignment has four characters, and a STEP does each at most once.
    private static final int MOST_UNDOS = ROOM / 4 + 1;

    // Kinds of TOKENS. A sign of one character is that character.
    private static final int NOTHING = 0;
    private static final int END = 1;
    private static final int BROKEN = 2;
    private static final int NAME = 3;
    private static final int NUMBER = 4;
    private static final int CODE = 5;
    private static final int SAME = 128;
    private static final int DIFFERENT = 129;
    private static final int NOT_MORE = 130;
    private static final int LEFT = 131;
    private static final int RIGHT = 132;
    private static final String SIGNS = "{}()[];:,?'+-*/%&|^~=!<";

    // The words, in the order of WORDS.
    private static final String WORDS =
            "bits reg file zero fetch from op let trap if else sx zx slt sdiv srem sra ";
    private static final int WORD_COUNT = 17;
    private static final int FIRST_WORD = 200;
    private static final int BITS = 200;
    private static final int REG = 201;
    private static final int FILE = 202;
    private static final int ZERO = 203;
    private static final int FETCH = 204;
    private static final int FROM = 205;
    private static final int OP = 206;
    private static final int LET = 207;
    private static final int TRAP = 208;
    private static final int IF = 209;
    private static final int ELSE = 210;
    private static final int SX = 211;
    private static final int ZX = 212;
    private static final int SLT = 213;
    private static final int SDIV = 214;
    private static final int SREM = 215;
    private static final int SRA = 216;

    // Doings of the code beside those of two VALUES, which are named by their TOKEN.
    private static final int LITERAL = 300;
    private static final int FIELD_OF = 301;
    private static final int LET_OF = 302;
    private static final int REGISTER_OF = 303;
    private static final int CELL_OF = 304;
    private static final int NEGATE = 305;
    private static final int INVERT = 306;
    private static final int NOT = 307;
    private static final int PART = 308;
    private static final int JOIN = 309;
    private static final int WIDEN = 310;
    private static final int JUMP = 311;
    private static final int UNLESS = 312;
    private static final int SET_LET = 313;
    private static final int SET_REGISTER = 314;
    private static final int SET_CELL = 315;
    private static final int TRAP_WITH = 316;
    private static final int OVER = 317;

    private static final int SYNTAX = 1;
    private static final int WRONG_NAME = 2;
    private static final int OUT_OF_RANGE = 3;
    private static final int WRONG_WIDTH = 4;
    private static final int WRONG_CODE = 5;
    private static final int TOO_MUCH = 6;
    private static final int NOT_APART = 7;

    private static final int NO_WORD = -1;
    private static final int NO_OP = -2;
    private static final int OUTSIDE = -3;

    private static final int SHIPPED_OPS = 48;
    private static final int SHIPPED_ROOM = 8192;

    private final byte[] input = new byte[ROOM];
    private int inputLength;
    private int faultNumber;
    private int faultPlace = -1;
    private int faultOther = -1;
    private final Weaver weaver = new Weaver();
    private final Program first = new Program(ROOM, MOST_OPS);
    private final Program second = new Program(ROOM, MOST_OPS);
    private Program shipped;
    private final Machine machine;

    public MachineLoom() {
        first.clear();
        first.tree.grow(first);
        machine = new Machine(first);
    }

    public int feed(int a, int b, int c, int d, int e) throws IndexOutOfBoundsException {
        if (inputLength + 20 > ROOM) {
            throw new IndexOutOfBoundsException();
        }
        putNumber(a);
        putNumber(b);
        putNumber(c);
        putNumber(d);
        putNumber(e);
        return inputLength;
    }

    private void putNumber(int number) {
        for (int shift = 24; shift >= 0; shift -= 8) {
            input[inputLength] = (byte) (number >> shift);
            inputLength++;
        }
    }

    public int end(int n) throws IllegalArgumentException {
        if (n < 0 || n > inputLength) {
            throw new IllegalArgumentException();
        }
        inputLength -= n;
        return inputLength;
    }

    public int build() throws IllegalStateException {
        // THE MACHINE must stay if there is a FAULT, so it is never the one that is written.
        Program target = machine.program == first ? second : first;
        boolean right = weaver.weave(input, inputLength, target);
        inputLength = 0;
        if (!right) {
            faultNumber = weaver.faults.number;
            faultPlace = weaver.faults.place;
            faultOther = weaver.other;
            throw new IllegalStateException();
        }
        machine.load(target);
        return target.ops;
    }

    public int ship() {
        if (shipped == null) {
            Shipped text = new Shipped();
            text.write();
            shipped = new Program(SHIPPED_ROOM, SHIPPED_OPS);
            weaver.weave(text.row, text.size, shipped);
        }
        machine.load(shipped);
        return shipped.ops;
    }

    public int fault(int what) throws IllegalArgumentException {
        switch (what) {
            case 0:
                return faultNumber;
            case 1:
                return faultPlace;
            case 2:
                return faultOther;
            default:
                throw new IllegalArgumentException();
        }
    }

    public int decode(long word) {
        return machine.opOf(word);
    }

    public long field(int op, int c, long word) throws NoSuchElementException {
        long mask = machine.program.maskOf(op, c);
        if (mask == 0) {
            throw new NoSuchElementException();
        }
        return Bits.gather(word, mask);
    }

    public void poke(int t, int i, long v) throws NoSuchElementException {
        if (!machine.program.has(t, i)) {
            throw new NoSuchElementException();
        }
        machine.put(t, i, v);
    }

    public long peek(int t, int i) throws NoSuchElementException {
        if (!machine.program.has(t, i)) {
            throw new NoSuchElementException();
        }
        return machine.values[machine.program.firsts[t] + i];
    }

    public int step(long word) {
        machine.oneWith(word);
        return machine.latest;
    }

    public int run(int n) throws IllegalArgumentException, IllegalStateException {
        if (n < 1 || n > MOST_STEPS) {
            throw new IllegalArgumentException();
        }
        if (machine.program.fetchFile < 0) {
            throw new IllegalStateException();
        }
        return machine.many(n);
    }

    public int trap() {
        return machine.latest;
    }

    public int thing(int t, int what) throws IllegalArgumentException, NoSuchElementException {
        if (what != 0 && what != 1) {
            throw new IllegalArgumentException();
        }
        Program program = machine.program;
        if (t < 0 || t >= program.things) {
            throw new NoSuchElementException();
        }
        return what == 0 ? program.widths[t] : program.cells[t];
    }

    public long free() {
        return machine.program.unused();
    }

    public int count(int what) {
        switch (what) {
            case 0:
                return inputLength;
            case 1:
                return machine.program.length;
            case 2:
                return machine.program.things;
            case 3:
                return machine.program.allCells;
            case 4:
                return machine.program.ops;
            case 5:
                return machine.done;
            case 6:
                return machine.trapped;
            case 7:
                return machine.beyond;
            default:
                return -1;
        }
    }

    /** VALUES and what is worked out of them. */
    private static final class Bits {
        private static final long HIGHEST_BIT = 1L << 63;

        static long mask(int width) {
            return width >= MOST_WIDTH ? -1L : (1L << width) - 1;
        }

        static long signed(long value, int width) {
            int above = MOST_WIDTH - width;
            return value << above >> above;
        }

        static boolean below(long left, long right) {
            return (left ^ HIGHEST_BIT) < (right ^ HIGHEST_BIT);
        }

        static long gather(long word, long mask) {
            long value = 0;
            long rest = mask;
            for (int place = 0; place < MOST_WIDTH && rest != 0; place++) {
                long lowest = rest & -rest;
                if ((word & lowest) != 0) {
                    value |= 1L << place;
                }
                rest ^= lowest;
            }
            return value;
        }

        static long divide(long left, long right) {
            if (right == 0) {
                return -1L;
            }
            if (right < 0) {
                return below(left, right) ? 0 : 1;
            }
            if (left >= 0) {
                return left / right;
            }
            // Java divides with sign: half of left has none, and the other half makes at most one more.
            long half = (left >>> 1) / right << 1;
            return below(left - half * right, right) ? half : half + 1;
        }

        static long signedDivide(long left, long right) {
            return right == 0 ? -1L : left / right;
        }

        static long signedRemain(long left, long right) {
            return right == 0 ? left : left % right;
        }

        static long shift(int kind, long left, long right, int width) {
            boolean far = right < 0 || right >= width;
            if (kind == SRA) {
                return signed(left, width) >> (far ? MOST_WIDTH - 1 : (int) right);
            }
            if (far) {
                return 0;
            }
            return kind == LEFT ? left << (int) right : left >>> (int) right;
        }

        static boolean holds(int kind, long left, long right, int width) {
            switch (kind) {
                case SAME:
                    return left == right;
                case DIFFERENT:
                    return left != right;
                case '<':
                    return below(left, right);
                case NOT_MORE:
                    return !below(right, left);
                default:
                    return signed(left, width) < signed(right, width);
            }
        }

        static long ofTwo(int kind, long left, long right, int width) {
            switch (kind) {
                case '|':
                    return left | right;
                case '^':
                    return left ^ right;
                case '&':
                    return left & right;
                case '+':
                    return left + right & mask(width);
                case '-':
                    return left - right & mask(width);
                case '*':
                    return left * right & mask(width);
                case '/':
                    return divide(left, right) & mask(width);
                case '%':
                    return right == 0 ? left : left - divide(left, right) * right;
                case SDIV:
                    return signedDivide(signed(left, width), signed(right, width)) & mask(width);
                case SREM:
                    return signedRemain(signed(left, width), signed(right, width)) & mask(width);
                case LEFT:
                case RIGHT:
                case SRA:
                    return shift(kind, left, right, width) & mask(width);
                default:
                    return holds(kind, left, right, width) ? 1 : 0;
            }
        }
    }

    /** Of all faults that are told the one with the least place, of equal ones the lesser number. */
    private static final class Faults {
        int number;
        int place;

        void clear() {
            number = 0;
            place = -1;
        }

        void tell(int where, int which) {
            if (number == 0 || where < place || where == place && which < number) {
                number = which;
                place = where;
            }
        }
    }

    /** Every NAME of a TEXT by a number of its own; the words have the first numbers. */
    private static final class Symbols {
        private static final int BUCKETS = 1024;

        final byte[] spelling = new byte[ROOM + 128];
        final int[] starts = new int[MOST_SYMBOLS + 1];
        final int[] buckets = new int[BUCKETS];
        final int[] chains = new int[MOST_SYMBOLS];
        final byte[] words = new byte[128];
        int size;

        void clear() {
            Arrays.fill(buckets, -1);
            size = 0;
            starts[0] = 0;
            int from = 0;
            for (int i = 0; i < WORDS.length(); i++) {
                words[i] = (byte) WORDS.charAt(i);
                if (words[i] == ' ') {
                    find(words, from, i - from);
                    from = i + 1;
                }
            }
        }

        int find(byte[] text, int from, int letters) {
            int bucket = 0;
            for (int i = 0; i < letters; i++) {
                bucket = bucket * 31 + text[from + i] & BUCKETS - 1;
            }
            int symbol = buckets[bucket];
            for (int turn = 0; turn < MOST_SYMBOLS && symbol >= 0; turn++) {
                if (isSpelt(symbol, text, from, letters)) {
                    return symbol;
                }
                symbol = chains[symbol];
            }
            return add(bucket, text, from, letters);
        }

        private boolean isSpelt(int symbol, byte[] text, int from, int letters) {
            int start = starts[symbol];
            if (starts[symbol + 1] - start != letters) {
                return false;
            }
            for (int i = 0; i < letters; i++) {
                if (spelling[start + i] != text[from + i]) {
                    return false;
                }
            }
            return true;
        }

        private int add(int bucket, byte[] text, int from, int letters) {
            int symbol = size;
            System.arraycopy(text, from, spelling, starts[symbol], letters);
            starts[symbol + 1] = starts[symbol] + letters;
            chains[symbol] = buckets[bucket];
            buckets[bucket] = symbol;
            size++;
            return symbol;
        }

        /** The letter that is the whole NAME, 0 if it is another one. */
        int letter(int symbol) {
            int start = starts[symbol];
            if (starts[symbol + 1] - start != 1 || spelling[start] == '_') {
                return 0;
            }
            return spelling[start];
        }
    }

    /** INPUT cut into TOKENS, and the one that the reader is at. */
    private static final class Tokens {
        // 2^64 - 1 without its last digit, and that one.
        private static final long MOST_TENTH = 1844674407370955161L;
        private static final int MOST_LAST = 5;

        // Row 0 is a TOKEN that stands for one that was not there.
        final int[] kinds = new int[ROOM + 2];
        final int[] places = new int[ROOM + 2];
        final long[] numbers = new long[ROOM + 2];
        final Symbols symbols = new Symbols();
        byte[] text;
        int length;
        int size;
        int at;
        int depth;
        int wrongPlace;

        void cut(byte[] row, int rowLength) {
            text = row;
            length = rowLength;
            size = 1;
            at = 1;
            depth = 0;
            wrongPlace = -1;
            symbols.clear();
            int place = 0;
            for (int turn = 0; turn <= ROOM && place >= 0; turn++) {
                place = cutOne(behindSpaces(place));
            }
        }

        private int behindSpaces(int from) {
            boolean inRemark = false;
            for (int place = from; place < length; place++) {
                int c = text[place];
                if (c == '#') {
                    inRemark = true;
                } else if (c == '\n') {
                    inRemark = false;
                } else if (!inRemark && c != ' ' && c != '\t' && c != '\r') {
                    return place;
                }
            }
            return length;
        }

        /** Answers the place behind the TOKEN, -1 if it is the last one. */
        private int cutOne(int place) {
            int c = characterAt(place);
            if (c < 0) {
                return add(END, length, 0, -1);
            }
            if (isDigit(c)) {
                boolean hex = c == '0' && characterAt(place + 1) == 'x';
                return hex ? cutHex(place) : cutDecimal(place);
            }
            if (isLetter(c) || c == '_') {
                return cutName(place);
            }
            return c == '"' ? cutCode(place) : cutSign(place, c);
        }

        private int cutDecimal(int from) {
            long value = 0;
            int place = from;
            for (; place < length && isDigit(text[place]); place++) {
                int digit = text[place] - '0';
                boolean more = value < 0 || value > MOST_TENTH;
                if (more || value == MOST_TENTH && digit > MOST_LAST) {
                    return broken(place);
                }
                value = value * 10 + digit;
            }
            return number(from, place, value);
        }

        private int cutHex(int from) {
            long value = 0;
            int place = from + 2;
            for (; place < length && hexDigit(text[place]) >= 0; place++) {
                if (place == from + 18) {
                    return broken(place);
                }
                value = value << 4 | hexDigit(text[place]);
            }
            return place == from + 2 ? broken(place) : number(from, place, value);
        }

        private int number(int from, int behind, long value) {
            int c = characterAt(behind);
            return isLetter(c) || c == '_' ? broken(behind) : add(NUMBER, from, value, behind);
        }

        private int cutName(int from) {
            int place = from;
            for (; place < length && isOfName(text[place]); place++) {
                if (place == from + MOST_LETTERS) {
                    return broken(place);
                }
            }
            int symbol = symbols.find(text, from, place - from);
            int kind = symbol < WORD_COUNT ? FIRST_WORD + symbol : NAME;
            return add(kind, from, symbol, place);
        }

        private int cutCode(int from) {
            int place = from + 1;
            while (place < length && isOfCode(text[place])) {
                place++;
            }
            if (characterAt(place) != '"') {
                return broken(place);
            }
            return add(CODE, from, place - from - 1, place + 1);
        }

        private int cutSign(int place, int c) {
            int pair = pairOf(c, characterAt(place + 1));
            if (pair != NOTHING) {
                return add(pair, place, 0, place + 2);
            }
            if (c == '>') {
                return broken(place + 1);
            }
            return SIGNS.indexOf((char) c) < 0 ? broken(place) : add(c, place, 0, place + 1);
        }

        private static int pairOf(int c, int next) {
            if (next == '=') {
                return c == '=' ? SAME : c == '!' ? DIFFERENT : c == '<' ? NOT_MORE : NOTHING;
            }
            if (c != next) {
                return NOTHING;
            }
            return c == '<' ? LEFT : c == '>' ? RIGHT : NOTHING;
        }

        private int broken(int place) {
            return add(BROKEN, place, 0, -1);
        }

        private int add(int kind, int place, long value, int behind) {
            kinds[size] = kind;
            places[size] = place;
            numbers[size] = value;
            size++;
            return behind;
        }

        private int characterAt(int place) {
            return place < length ? text[place] & 255 : -1;
        }

        private static boolean isDigit(int c) {
            return c >= '0' && c <= '9';
        }

        private static boolean isLetter(int c) {
            return c >= 'a' && c <= 'z' || c >= 'A' && c <= 'Z';
        }

        private static boolean isOfName(int c) {
            return isLetter(c) || isDigit(c) || c == '_';
        }

        private static boolean isOfCode(int c) {
            return isLetter(c) || c == '0' || c == '1' || c == '.';
        }

        private static int hexDigit(int c) {
            if (isDigit(c)) {
                return c - '0';
            }
            if (c >= 'a' && c <= 'f') {
                return c - 'a' + 10;
            }
            return c >= 'A' && c <= 'F' ? c - 'A' + 10 : -1;
        }

        boolean right() {
            return wrongPlace < 0;
        }

        /** This TOKEN is the one with which no right TEXT could go on. */
        void wrong() {
            if (wrongPlace < 0) {
                wrongPlace = places[at];
            }
        }

        int kind() {
            return wrongPlace < 0 ? kinds[at] : NOTHING;
        }

        int kindBehind() {
            return at + 1 < size ? kinds[at + 1] : NOTHING;
        }

        /** Goes behind a TOKEN of that kind and answers its number, 0 if there is another one. */
        int take(int kind) {
            if (kind() != kind) {
                wrong();
                return 0;
            }
            int token = at;
            at++;
            return token;
        }

        /** As take, with a TOKEN that counts in the DEPTH of those behind it. */
        int open(int kind) {
            if (depth == MOST_DEPTH) {
                wrong();
            }
            depth++;
            return take(kind);
        }

        int close(int kind) {
            depth--;
            return take(kind);
        }
    }

    /** What the NAMES mean at the place where the reader is. */
    private static final class Names {
        static final int UNKNOWN = 0;
        static final int REGISTER = 1;
        static final int CELLS = 2;
        static final int VALUE = 3;
        static final int LETTER = 4;

        final Symbols symbols;
        final int[] kinds = new int[MOST_SYMBOLS];
        final int[] indexes = new int[MOST_SYMBOLS];
        // 1: an op has that NAME.
        final byte[] ops = new byte[MOST_SYMBOLS];
        // How often a letter stands in the CODE of the op, and where.
        final int[] letters = new int[128];
        final long[] masks = new long[128];
        final int[] scope = new int[MOST_LETS];
        int inScope;
        final int[] letWidths = new int[MOST_LETS];
        int lets;

        Names(Symbols symbols) {
            this.symbols = symbols;
        }

        void clear() {
            Arrays.fill(kinds, 0, symbols.size, UNKNOWN);
            Arrays.fill(ops, 0, symbols.size, (byte) 0);
            leaveOp();
        }

        void know(int symbol, int kind, int index) {
            kinds[symbol] = kind;
            indexes[symbol] = index;
        }

        int kindOf(int symbol) {
            return letters[symbols.letter(symbol)] > 0 ? LETTER : kinds[symbol];
        }

        long maskOf(int symbol) {
            return masks[symbols.letter(symbol)];
        }

        void enterOp(byte[] text, int from, int signs, int length) {
            for (int i = 0; i < signs; i++) {
                int sign = text[from + i];
                if (sign >= 'A') {
                    letters[sign]++;
                    // In a CODE of a wrong size the letters have no WIDTH.
                    masks[sign] |= signs == length ? 1L << length - 1 - i : 0;
                }
            }
        }

        void leaveOp() {
            Arrays.fill(letters, 0);
            Arrays.fill(masks, 0);
            forget(0);
            lets = 0;
        }

        void addLet(int symbol, int width) {
            know(symbol, VALUE, lets);
            scope[inScope] = symbol;
            inScope++;
            letWidths[lets] = width;
            lets++;
        }

        void forget(int kept) {
            for (int i = kept; i < inScope; i++) {
                kinds[scope[i]] = UNKNOWN;
            }
            inScope = kept;
        }
    }

    /** What a TEXT tells: the THINGS, the CODES of the ops, and a code of what they do. */
    private static final class Program {
        int length;
        int things;
        final int[] widths = new int[MOST_THINGS];
        final int[] cells = new int[MOST_THINGS];
        final int[] firsts = new int[MOST_THINGS];
        final boolean[] zeros = new boolean[MOST_THINGS];
        int slots;
        int allCells;
        int fetchRegister;
        int fetchFile;
        int ops;
        final long[] masks;
        final long[] values;
        final int[] starts;
        final byte[] signs;
        final int[] does;
        final long[] withs;
        int size;
        final Tree tree;

        Program(int room, int mostOps) {
            masks = new long[mostOps];
            values = new long[mostOps];
            starts = new int[mostOps];
            signs = new byte[mostOps * MOST_WIDTH];
            does = new int[room];
            withs = new long[room];
            tree = new Tree(mostOps);
        }

        void clear() {
            length = 8;
            things = 0;
            slots = 0;
            allCells = 0;
            fetchRegister = -1;
            fetchFile = -1;
            ops = 0;
            size = 0;
        }

        void addThing(int width, int cellCount, boolean zero) {
            widths[things] = width;
            cells[things] = cellCount;
            firsts[things] = slots;
            zeros[things] = zero;
            slots += cellCount == 0 ? 1 : cellCount;
            allCells += cellCount;
            things++;
        }

        void addOp(byte[] text, int from) {
            long mask = 0;
            long value = 0;
            for (int i = 0; i < length; i++) {
                byte sign = text[from + i];
                signs[ops * MOST_WIDTH + i] = sign;
                mask = mask << 1 | (sign == '0' || sign == '1' ? 1 : 0);
                value = value << 1 | (sign == '1' ? 1 : 0);
            }
            masks[ops] = mask;
            values[ops] = value;
            starts[ops] = size;
            ops++;
        }

        int emit(int doing, long with) {
            // Each TOKEN makes at most one doing, so there is room for all.
            if (size < does.length) {
                does[size] = doing;
                withs[size] = with;
                size++;
            }
            return size - 1;
        }

        /** The jump that stands at that place goes to what comes next. */
        void aim(int place) {
            if (place >= 0) {
                withs[place] = size;
            }
        }

        /** The same for a chain of jumps, each of which still tells where the one before it is. */
        void aimAll(int last) {
            int place = last;
            for (int turn = 0; turn < size && place >= 0; turn++) {
                int before = (int) withs[place];
                withs[place] = size;
                place = before;
            }
        }

        boolean has(int t, int i) {
            if (t < 0 || t >= things || i < 0) {
                return false;
            }
            return cells[t] == 0 ? i == 0 : i < cells[t];
        }

        /** The places of a letter in the CODE of an op, 0 if there are none. */
        long maskOf(int op, int c) {
            boolean letter = c >= 'a' && c <= 'z' || c >= 'A' && c <= 'Z';
            if (op < 0 || op >= ops || !letter) {
                return 0;
            }
            long mask = 0;
            for (int i = 0; i < length; i++) {
                mask = mask << 1 | (signs[op * MOST_WIDTH + i] == c ? 1 : 0);
            }
            return mask;
        }

        boolean apart(int one, int other) {
            return (masks[one] & masks[other] & (values[one] ^ values[other])) != 0;
        }

        long unused() {
            long words = power(length);
            for (int op = 0; op < ops; op++) {
                words -= power(length - Long.bitCount(masks[op]));
            }
            return words;
        }

        private static long power(int bits) {
            return bits >= MOST_WIDTH ? 0 : 1L << bits;
        }
    }

    /** Parts the ops by bits that all of a node's ops have fixed, and not all the same way. */
    private static final class Tree {
        static final int LEAF = -1;

        final int[] order;
        final int[] bits;
        // Of a leaf its first op in the order and the place behind its last, else the two nodes.
        final int[] lows;
        final int[] highs;
        int nodes;

        Tree(int mostOps) {
            order = new int[mostOps];
            bits = new int[2 * mostOps + 1];
            lows = new int[2 * mostOps + 1];
            highs = new int[2 * mostOps + 1];
        }

        void grow(Program program) {
            for (int i = 0; i < program.ops; i++) {
                order[i] = i;
            }
            nodes = 0;
            addLeaf(0, program.ops);
            // Each parting adds two nodes of fewer ops, so there are never more than the row has.
            for (int node = 0; node < nodes && node < bits.length; node++) {
                int bit = partingBit(program, lows[node], highs[node]);
                if (bit >= 0) {
                    part(program, node, bit);
                }
            }
        }

        private void addLeaf(int from, int to) {
            bits[nodes] = LEAF;
            lows[nodes] = from;
            highs[nodes] = to;
            nodes++;
        }

        private int partingBit(Program program, int from, int to) {
            long fixed = -1L;
            long ones = 0;
            long noughts = 0;
            for (int i = from; i < to; i++) {
                fixed &= program.masks[order[i]];
                ones |= program.values[order[i]];
                noughts |= ~program.values[order[i]];
            }
            long parting = fixed & ones & noughts;
            return parting == 0 ? LEAF : Long.bitCount((parting & -parting) - 1);
        }

        private void part(Program program, int node, int bit) {
            int from = lows[node];
            int to = highs[node];
            int middle = from;
            for (int i = from; i < to; i++) {
                int op = order[i];
                if ((program.values[op] >>> bit & 1) == 0) {
                    order[i] = order[middle];
                    order[middle] = op;
                    middle++;
                }
            }
            bits[node] = bit;
            lows[node] = nodes;
            highs[node] = nodes + 1;
            addLeaf(from, middle);
            addLeaf(middle, to);
        }

        int leafOf(long word) {
            int node = 0;
            for (int turn = 0; turn <= MOST_WIDTH && bits[node] != LEAF; turn++) {
                node = (word >>> bits[node] & 1) == 0 ? lows[node] : highs[node];
            }
            return node;
        }
    }

    /** Reads an EXPR by a row of marks, which are what is begun and not over, and makes its code. */
    private static final class Exprs {
        static final int DUE = 0;
        static final int DONE = 1;
        static final int ALL_OVER = 2;

        final Tokens tokens;
        final Names names;
        final Faults faults;
        Program program;
        final int[] marks = new int[MOST_MARKS];
        final int[] markTokens = new int[MOST_MARKS];
        // Of a { how many parts are over, of a call likewise, of ? and : the jump to aim, of a [ the FILE.
        final int[] markWiths = new int[MOST_MARKS];
        final int[] conditions = new int[MOST_MARKS];
        int marked;
        // WIDTHS of the parts that are over; 0: has none.
        final int[] widths = new int[MOST_MARKS];
        int held;

        Exprs(Tokens tokens, Names names, Faults faults) {
            this.tokens = tokens;
            this.names = names;
            this.faults = faults;
        }

        void begin() {
            marked = 0;
            held = 0;
        }

        private void mark(int kind, int token) {
            marks[marked] = kind;
            markTokens[marked] = token;
            markWiths[marked] = 0;
            marked++;
        }

        private void hold(int width) {
            widths[held] = width;
            held++;
        }

        /** The WIDTH of the part that was over latest; it is held no more. */
        int release() {
            held--;
            return widths[held];
        }

        private void tell(int token, int number) {
            faults.tell(tokens.places[token], number);
        }

        /** Reads on where a UNARY is due; answers whether what follows it is due. */
        boolean operand() {
            int kind = tokens.kind();
            switch (kind) {
                case '-':
                    mark(NEGATE, tokens.open(kind));
                    return false;
                case '~':
                    mark(INVERT, tokens.open(kind));
                    return false;
                case '!':
                    mark(NOT, tokens.open(kind));
                    return false;
                case '(':
                case '{':
                    mark(kind, tokens.open(kind));
                    return false;
                case NUMBER:
                    literal();
                    return true;
                case NAME:
                    return name();
                default:
                    call(kind);
                    return false;
            }
        }

        private void call(int kind) {
            if (kind < SX || kind > SRA) {
                tokens.wrong();
                return;
            }
            mark(kind, tokens.take(kind));
            tokens.open('(');
        }

        private void literal() {
            int widthToken = tokens.take(NUMBER);
            tokens.take('\'');
            int valueToken = tokens.take(NUMBER);
            long width = tokens.numbers[widthToken];
            long value = tokens.numbers[valueToken];
            program.emit(LITERAL, value);
            if (width < 1 || width > MOST_WIDTH) {
                tell(widthToken, OUT_OF_RANGE);
                hold(0);
            } else if ((value & ~Bits.mask((int) width)) != 0) {
                tell(valueToken, OUT_OF_RANGE);
                hold(0);
            } else {
                hold((int) width);
            }
        }

        private boolean name() {
            boolean indexed = tokens.kindBehind() == '[';
            int token = tokens.take(NAME);
            int symbol = (int) tokens.numbers[token];
            int kind = names.kindOf(symbol);
            int index = names.indexes[symbol];
            if (kind == Names.CELLS && indexed) {
                mark('[', tokens.open('['));
                markWiths[marked - 1] = index;
                return false;
            }
            if (kind == Names.LETTER) {
                long mask = names.maskOf(symbol);
                program.emit(FIELD_OF, mask);
                hold(Long.bitCount(mask));
            } else if (kind == Names.VALUE) {
                program.emit(LET_OF, index);
                hold(names.letWidths[index]);
            } else if (kind == Names.REGISTER) {
                program.emit(REGISTER_OF, program.firsts[index]);
                hold(program.widths[index]);
            } else {
                tell(token, WRONG_NAME);
                hold(0);
            }
            return true;
        }

        /** Reads on behind a POST: answers DUE if a UNARY is, DONE if not, ALL_OVER if the EXPR is over. */
        int after() {
            int kind = tokens.kind();
            if (kind == '[') {
                part();
                return DONE;
            }
            endSigns();
            int level = levelOf(kind);
            if (level > 0) {
                endBinaries(level);
                mark(kind, tokens.take(kind));
                return DUE;
            }
            endBinaries(1);
            if (kind == '?') {
                choose();
                return DUE;
            }
            endChoices();
            if (marked == 0) {
                return ALL_OVER;
            }
            return goOn(kind);
        }

        private void part() {
            tokens.open('[');
            int highToken = tokens.take(NUMBER);
            int lowToken = highToken;
            if (tokens.kind() == ':') {
                tokens.take(':');
                lowToken = tokens.take(NUMBER);
            }
            tokens.close(']');
            int width = release();
            long high = tokens.numbers[highToken];
            long low = tokens.numbers[lowToken];
            boolean highOut = width > 0 && (high < 0 || high >= width);
            boolean lowOut = Bits.below(high, low);
            if (highOut) {
                tell(highToken, OUT_OF_RANGE);
            }
            if (lowOut) {
                tell(lowToken, OUT_OF_RANGE);
            }
            boolean none = width == 0 || highOut || lowOut;
            int wide = none ? 0 : (int) (high - low) + 1;
            program.emit(PART, low & 255 | (long) wide << 8);
            hold(wide);
        }

        /** How tight a sign between two binds, 1 the least; 0 if it is no such sign. */
        private static int levelOf(int kind) {
            switch (kind) {
                case '|':
                    return 1;
                case '^':
                    return 2;
                case '&':
                    return 3;
                case SAME:
                case DIFFERENT:
                    return 4;
                case '<':
                case NOT_MORE:
                    return 5;
                case LEFT:
                case RIGHT:
                    return 6;
                case '+':
                case '-':
                    return 7;
                case '*':
                case '/':
                case '%':
                    return 8;
                default:
                    return 0;
            }
        }

        private void endSigns() {
            for (int turn = 0; turn <= MOST_DEPTH && marked > 0; turn++) {
                int doing = marks[marked - 1];
                if (doing != NEGATE && doing != INVERT && doing != NOT) {
                    return;
                }
                marked--;
                tokens.depth--;
                int width = release();
                if (doing == NOT && width > 1) {
                    tell(markTokens[marked], WRONG_WIDTH);
                    width = 0;
                }
                program.emit(doing, Bits.mask(width));
                hold(width);
            }
        }

        private void endBinaries(int level) {
            for (int turn = 0; turn < MOST_MARKS && marked > 0; turn++) {
                int kind = marks[marked - 1];
                if (levelOf(kind) < level) {
                    return;
                }
                marked--;
                ofTwo(kind, markTokens[marked]);
            }
        }

        /** Ends what is made of the two latest parts. */
        private void ofTwo(int kind, int token) {
            int right = release();
            int left = release();
            program.emit(kind, left);
            boolean anyRight = kind == LEFT || kind == RIGHT || kind == SRA;
            if (left == 0 || right == 0) {
                hold(0);
            } else if (left != right && !anyRight) {
                tell(token, WRONG_WIDTH);
                hold(0);
            } else {
                int level = levelOf(kind);
                hold(level == 4 || level == 5 || kind == SLT ? 1 : left);
            }
        }

        private void choose() {
            mark('?', tokens.open('?'));
            conditions[marked - 1] = release();
            markWiths[marked - 1] = program.emit(UNLESS, 0);
        }

        private void otherwise() {
            tokens.take(':');
            int unless = markWiths[marked - 1];
            marks[marked - 1] = ':';
            markWiths[marked - 1] = program.emit(JUMP, 0);
            program.aim(unless);
        }

        private void endChoices() {
            for (int turn = 0; turn <= MOST_DEPTH && marked > 0; turn++) {
                if (marks[marked - 1] != ':') {
                    return;
                }
                marked--;
                tokens.depth--;
                program.aim(markWiths[marked]);
                int no = release();
                int yes = release();
                int condition = conditions[marked];
                boolean none = condition == 0 || yes == 0 || no == 0;
                if (!none && (condition != 1 || yes != no)) {
                    tell(markTokens[marked], WRONG_WIDTH);
                    none = true;
                }
                hold(none ? 0 : yes);
            }
        }

        /** Reads on where an EXPR inside of another is over. */
        private int goOn(int kind) {
            int top = marks[marked - 1];
            boolean firstPart = markWiths[marked - 1] == 0;
            if (top == '?' && kind == ':') {
                otherwise();
                return DUE;
            }
            if (top == '{' && (kind == ',' || kind == '}')) {
                return join(kind);
            }
            if (top == '[' && kind == ']') {
                cell();
            } else if (top == '(' && kind == ')') {
                tokens.close(')');
                marked--;
            } else if ((top == SX || top == ZX) && kind == ',') {
                widen(top);
            } else if (top >= SLT && top <= SRA && kind == ',' && firstPart) {
                tokens.take(',');
                markWiths[marked - 1] = 1;
                return DUE;
            } else if (top >= SLT && top <= SRA && kind == ')' && !firstPart) {
                tokens.close(')');
                marked--;
                ofTwo(top, markTokens[marked]);
            } else {
                tokens.wrong();
            }
            return DONE;
        }

        private int join(int kind) {
            int top = marked - 1;
            if (markWiths[top] > 0) {
                int right = release();
                int left = release();
                program.emit(JOIN, right);
                hold(left == 0 || right == 0 ? 0 : left + right);
            }
            markWiths[top]++;
            if (kind == ',') {
                tokens.take(',');
                return DUE;
            }
            tokens.close('}');
            marked--;
            int width = release();
            if (width > MOST_WIDTH) {
                tell(markTokens[marked], WRONG_WIDTH);
                width = 0;
            }
            hold(width);
            return DONE;
        }

        private void cell() {
            tokens.close(']');
            marked--;
            int file = markWiths[marked];
            program.emit(CELL_OF, file);
            int index = release();
            hold(index == 0 ? 0 : program.widths[file]);
        }

        private void widen(int word) {
            tokens.take(',');
            int token = tokens.take(NUMBER);
            tokens.close(')');
            marked--;
            int width = release();
            long wide = tokens.numbers[token];
            boolean out = wide < 1 || wide < width || wide > MOST_WIDTH;
            if (out) {
                tell(token, OUT_OF_RANGE);
            }
            if (word == SX) {
                program.emit(WIDEN, width | wide << 8);
            }
            hold(out || width == 0 ? 0 : (int) wide);
        }
    }

    /** Reads a TEXT and makes a program of it, or tells its FAULT. */
    private static final class Weaver {
        static final int ITEM = 0;
        static final int STATEMENT = 1;
        static final int OPERAND = 2;
        static final int AFTER = 3;
        static final int FINISHED = 4;

        // What the EXPR that is read is for.
        static final int LET_VALUE = 0;
        static final int INDEX = 1;
        static final int REGISTER_VALUE = 2;
        static final int CELL_VALUE = 3;
        static final int CONDITION = 4;

        final Tokens tokens = new Tokens();
        final Names names = new Names(tokens.symbols);
        final Faults faults = new Faults();
        final Exprs exprs = new Exprs(tokens, names, faults);
        int other;
        private Program program;
        private int mode;
        private int goal;
        // The 'if' or the '='.
        private int goalToken;
        // The THING that is assigned or the NAME of the let; -1 if that was a fault.
        private int goalIndex;
        private int exits;
        private final int[] blockKinds = new int[MOST_DEPTH + 1];
        private final int[] blockUnlesses = new int[MOST_DEPTH + 1];
        private final int[] blockExits = new int[MOST_DEPTH + 1];
        private final int[] blockScopes = new int[MOST_DEPTH + 1];
        private int blocks;

        boolean weave(byte[] text, int length, Program into) {
            begin(into);
            tokens.cut(text, length);
            names.clear();
            readBits();
            // Each turn but that at the end of an EXPR takes a TOKEN.
            for (int turn = 0; turn < 4 * ROOM && mode != FINISHED && tokens.right(); turn++) {
                if (mode == ITEM) {
                    item();
                } else if (mode == STATEMENT) {
                    statement();
                } else if (mode == OPERAND) {
                    mode = exprs.operand() ? AFTER : OPERAND;
                } else {
                    int state = exprs.after();
                    mode = state == Exprs.DUE ? OPERAND : AFTER;
                    if (state == Exprs.ALL_OVER) {
                        finish();
                    }
                }
            }
            if (!tokens.right()) {
                faults.clear();
                faults.tell(tokens.wrongPlace, SYNTAX);
            }
            if (faults.number != 0 || !areApart()) {
                return false;
            }
            program.tree.grow(program);
            return true;
        }

        private void begin(Program into) {
            program = into;
            program.clear();
            exprs.program = into;
            faults.clear();
            other = -1;
            blocks = 0;
            mode = ITEM;
        }

        private void tell(int token, int number) {
            faults.tell(tokens.places[token], number);
        }

        private int symbolOf(int token) {
            return (int) tokens.numbers[token];
        }

        private void readBits() {
            tokens.take(BITS);
            int token = tokens.take(NUMBER);
            tokens.take(';');
            long bits = tokens.numbers[token];
            if (bits == 8 || bits == 16 || bits == 32 || bits == 64) {
                program.length = (int) bits;
            } else {
                tell(token, OUT_OF_RANGE);
            }
        }

        private void item() {
            switch (tokens.kind()) {
                case REG:
                    register();
                    break;
                case FILE:
                    file();
                    break;
                case FETCH:
                    fetch();
                    break;
                case OP:
                    op();
                    break;
                case END:
                    mode = FINISHED;
                    break;
                default:
                    tokens.wrong();
            }
        }

        /** The NUMBER of that TOKEN, 0 if it isn't 1 .. most. */
        private int numberUpTo(int token, int most) {
            long number = tokens.numbers[token];
            if (number < 1 || number > most) {
                tell(token, OUT_OF_RANGE);
                return 0;
            }
            return (int) number;
        }

        private void register() {
            tokens.take(REG);
            int name = tokens.take(NAME);
            tokens.take(':');
            int width = numberUpTo(tokens.take(NUMBER), MOST_WIDTH);
            tokens.take(';');
            if (tokens.right() && isNew(name, 0)) {
                names.know(symbolOf(name), Names.REGISTER, program.things);
                program.addThing(width, 0, false);
            }
        }

        private void file() {
            tokens.take(FILE);
            int name = tokens.take(NAME);
            tokens.take(':');
            int width = numberUpTo(tokens.take(NUMBER), MOST_WIDTH);
            tokens.take('[');
            int cells = numberUpTo(tokens.take(NUMBER), MOST_CELLS);
            tokens.take(']');
            boolean zero = tokens.kind() == ZERO;
            if (zero) {
                tokens.take(ZERO);
            }
            tokens.take(';');
            if (width == 0 || cells == 0) {
                width = 0;
                cells = 0;
            }
            if (tokens.right() && isNew(name, cells)) {
                names.know(symbolOf(name), Names.CELLS, program.things);
                program.addThing(width, cells, zero);
            }
        }

        private boolean isNew(int name, int cells) {
            if (names.kindOf(symbolOf(name)) != Names.UNKNOWN) {
                tell(name, WRONG_NAME);
                return false;
            }
            if (program.things == MOST_THINGS || program.allCells + cells > MOST_CELLS) {
                tell(name, TOO_MUCH);
                return false;
            }
            return true;
        }

        private void fetch() {
            int word = tokens.take(FETCH);
            int register = tokens.take(NAME);
            tokens.take(FROM);
            int file = tokens.take(NAME);
            tokens.take(';');
            if (!tokens.right()) {
                return;
            }
            if (program.fetchFile >= 0) {
                tell(word, TOO_MUCH);
            }
            int registerIndex = names.indexes[symbolOf(register)];
            int fileIndex = names.indexes[symbolOf(file)];
            if (names.kindOf(symbolOf(register)) != Names.REGISTER) {
                tell(register, WRONG_NAME);
            } else if (names.kindOf(symbolOf(file)) != Names.CELLS || program.widths[fileIndex] != 8) {
                tell(file, WRONG_NAME);
            } else {
                program.fetchRegister = registerIndex;
                program.fetchFile = fileIndex;
            }
        }

        private void op() {
            tokens.take(OP);
            int name = tokens.take(NAME);
            int code = tokens.take(CODE);
            openBlock(OP, -1, -1);
            if (!tokens.right()) {
                return;
            }
            int symbol = symbolOf(name);
            int from = tokens.places[code] + 1;
            int signs = (int) tokens.numbers[code];
            if (names.ops[symbol] == 1) {
                tell(name, WRONG_NAME);
            } else if (program.ops == MOST_OPS) {
                tell(name, TOO_MUCH);
            } else if (signs == program.length) {
                program.addOp(tokens.text, from);
            }
            if (signs != program.length) {
                tell(code, WRONG_CODE);
            }
            names.ops[symbol] = 1;
            names.enterOp(tokens.text, from, signs, program.length);
        }

        private void openBlock(int kind, int unless, int exitChain) {
            tokens.open('{');
            if (tokens.right()) {
                blockKinds[blocks] = kind;
                blockUnlesses[blocks] = unless;
                blockExits[blocks] = exitChain;
                blockScopes[blocks] = names.inScope;
                blocks++;
                mode = STATEMENT;
            }
        }

        private void closeBlock() {
            tokens.close('}');
            blocks--;
            names.forget(blockScopes[blocks]);
            int kind = blockKinds[blocks];
            if (kind == OP) {
                program.emit(OVER, 0);
                names.leaveOp();
                mode = ITEM;
            } else if (kind == IF && tokens.kind() == ELSE) {
                tokens.take(ELSE);
                int chain = program.emit(JUMP, blockExits[blocks]);
                program.aim(blockUnlesses[blocks]);
                if (tokens.kind() == IF) {
                    beginIf(chain);
                } else {
                    openBlock(ELSE, -1, chain);
                }
            } else {
                program.aim(blockUnlesses[blocks]);
                program.aimAll(blockExits[blocks]);
            }
        }

        private void statement() {
            switch (tokens.kind()) {
                case LET:
                    beginLet();
                    break;
                case NAME:
                    beginAssignment();
                    break;
                case TRAP:
                    tokens.take(TRAP);
                    program.emit(TRAP_WITH, numberUpTo(tokens.take(NUMBER), MOST_TRAP));
                    tokens.take(';');
                    break;
                case IF:
                    beginIf(-1);
                    break;
                case '}':
                    closeBlock();
                    break;
                default:
                    tokens.wrong();
            }
        }

        private void beginExpr(int what) {
            goal = what;
            exprs.begin();
            mode = OPERAND;
        }

        private void beginIf(int exitChain) {
            goalToken = tokens.take(IF);
            exits = exitChain;
            beginExpr(CONDITION);
        }

        private void beginLet() {
            tokens.take(LET);
            int name = tokens.take(NAME);
            goalToken = tokens.take('=');
            goalIndex = symbolOf(name);
            if (names.kindOf(goalIndex) != Names.UNKNOWN) {
                tell(name, WRONG_NAME);
                goalIndex = -1;
            } else if (names.lets == MOST_LETS) {
                tell(name, TOO_MUCH);
                goalIndex = -1;
            }
            beginExpr(LET_VALUE);
        }

        private void beginAssignment() {
            int name = tokens.take(NAME);
            int symbol = symbolOf(name);
            boolean indexed = tokens.kind() == '[';
            goalIndex = names.indexes[symbol];
            if (names.kindOf(symbol) != (indexed ? Names.CELLS : Names.REGISTER)) {
                tell(name, WRONG_NAME);
                goalIndex = -1;
            }
            if (indexed) {
                tokens.open('[');
                beginExpr(INDEX);
            } else {
                goalToken = tokens.take('=');
                beginExpr(REGISTER_VALUE);
            }
        }

        /** Goes on with that for which the EXPR was read, which is over. */
        private void finish() {
            int width = exprs.release();
            if (goal == INDEX) {
                tokens.close(']');
                goalToken = tokens.take('=');
                beginExpr(CELL_VALUE);
                return;
            }
            mode = STATEMENT;
            if (goal == CONDITION) {
                if (width > 1) {
                    tell(goalToken, WRONG_WIDTH);
                }
                openBlock(IF, program.emit(UNLESS, 0), exits);
                return;
            }
            if (goal == LET_VALUE) {
                addLet(width);
            } else {
                assign(width);
            }
            tokens.take(';');
        }

        private void addLet(int width) {
            if (goalIndex >= 0) {
                program.emit(SET_LET, names.lets);
                names.addLet(goalIndex, width);
            }
        }

        private void assign(int width) {
            if (goalIndex >= 0) {
                int due = program.widths[goalIndex];
                if (width > 0 && due > 0 && width != due) {
                    tell(goalToken, WRONG_WIDTH);
                }
                program.emit(goal == REGISTER_VALUE ? SET_REGISTER : SET_CELL, goalIndex);
            }
        }

        private boolean areApart() {
            for (int op = 1; op < program.ops; op++) {
                for (int before = 0; before < op; before++) {
                    if (!program.apart(before, op)) {
                        faults.tell(op, NOT_APART);
                        other = before;
                        return false;
                    }
                }
            }
            return true;
        }
    }

    /** A program at work: the VALUES, and the STEPS that change them. */
    private static final class Machine {
        Program program;
        final long[] values = new long[MOST_CELLS + MOST_THINGS];
        private final long[] lets = new long[MOST_LETS];
        private final long[] stack = new long[MOST_MARKS];
        private int top;
        private final int[] undoSlots = new int[MOST_UNDOS];
        private final long[] undoValues = new long[MOST_UNDOS];
        private int undos;
        private boolean assigned;
        int latest;
        int done;
        int trapped;
        int beyond;

        Machine(Program program) {
            this.program = program;
        }

        void load(Program next) {
            program = next;
            Arrays.fill(values, 0, program.slots, 0);
            done = 0;
            trapped = 0;
        }

        void put(int t, int i, long value) {
            if (i > 0 || !program.zeros[t]) {
                values[program.firsts[t] + i] = value & Bits.mask(program.widths[t]);
            }
        }

        int opOf(long word) {
            Tree tree = program.tree;
            int leaf = tree.leafOf(word);
            int found = -1;
            for (int i = tree.lows[leaf]; i < tree.highs[leaf]; i++) {
                int op = tree.order[i];
                if ((word & program.masks[op]) == program.values[op]) {
                    if (found >= 0) {
                        beyond++;
                    } else {
                        found = op;
                    }
                }
            }
            return found;
        }

        /** A STEP with that WORD, counted. */
        void oneWith(long word) {
            undos = 0;
            assigned = false;
            int op = opOf(word);
            latest = op < 0 ? NO_OP : perform(program.starts[op], word);
            if (latest == 0) {
                goForth();
                done++;
            } else {
                undo();
                trapped++;
            }
        }

        int many(int most) {
            int bytes = program.length / 8;
            int file = program.fetchFile;
            for (int i = 0; i < most; i++) {
                long index = values[program.firsts[program.fetchRegister]];
                if (index < 0 || index > program.cells[file] - bytes) {
                    latest = NO_WORD;
                    trapped++;
                } else {
                    oneWith(wordAt(program.firsts[file] + (int) index, bytes));
                }
                if (latest != 0) {
                    return i;
                }
            }
            return most;
        }

        private long wordAt(int slot, int bytes) {
            long word = 0;
            for (int i = bytes - 1; i >= 0; i--) {
                word = word << 8 | values[slot + i];
            }
            return word;
        }

        private void goForth() {
            int register = program.fetchRegister;
            if (register >= 0 && !assigned) {
                put(register, 0, values[program.firsts[register]] + program.length / 8);
            }
        }

        private void undo() {
            for (int i = undos - 1; i >= 0; i--) {
                values[undoSlots[i]] = undoValues[i];
            }
        }

        /** Answers the TRAP, or 0. All jumps go forth, so no doing comes twice. */
        private int perform(int start, long word) {
            top = 0;
            int at = start;
            for (int turn = 0; turn < program.size && at < program.size; turn++) {
                int doing = program.does[at];
                long with = program.withs[at];
                at++;
                switch (doing) {
                    case OVER:
                        return 0;
                    case TRAP_WITH:
                        return (int) with;
                    case JUMP:
                        at = (int) with;
                        break;
                    case UNLESS:
                        top--;
                        at = stack[top] == 0 ? (int) with : at;
                        break;
                    case FIELD_OF:
                        push(Bits.gather(word, with));
                        break;
                    case CELL_OF:
                    case SET_CELL:
                        if (!ofCell(doing, (int) with)) {
                            return OUTSIDE;
                        }
                        break;
                    default:
                        work(doing, with);
                }
            }
            return 0;
        }

        private void push(long value) {
            stack[top] = value;
            top++;
        }

        private long pop() {
            top--;
            return stack[top];
        }

        /** Reads or assigns a cell; answers whether it is there. */
        private boolean ofCell(int doing, int file) {
            long value = doing == SET_CELL ? pop() : 0;
            long index = pop();
            if (index < 0 || index >= program.cells[file]) {
                return false;
            }
            if (doing == SET_CELL) {
                assign(file, (int) index, value);
            } else {
                push(values[program.firsts[file] + (int) index]);
            }
            return true;
        }

        private void assign(int t, int i, long value) {
            int slot = program.firsts[t] + i;
            undoSlots[undos] = slot;
            undoValues[undos] = values[slot];
            undos++;
            put(t, i, value);
        }

        private void work(int doing, long with) {
            switch (doing) {
                case LITERAL:
                    push(with);
                    break;
                case LET_OF:
                    push(lets[(int) with]);
                    break;
                case REGISTER_OF:
                    push(values[(int) with]);
                    break;
                case SET_LET:
                    lets[(int) with] = pop();
                    break;
                case SET_REGISTER:
                    assigned = assigned || with == program.fetchRegister;
                    assign((int) with, 0, pop());
                    break;
                case NEGATE:
                    push(-pop() & with);
                    break;
                case INVERT:
                case NOT:
                    push(~pop() & with);
                    break;
                case PART:
                    push(pop() >>> (int) (with & 255) & Bits.mask((int) (with >> 8)));
                    break;
                case WIDEN:
                    push(Bits.signed(pop(), (int) (with & 255)) & Bits.mask((int) (with >> 8)));
                    break;
                case JOIN:
                    long low = pop();
                    push(pop() << (int) with | low);
                    break;
                default:
                    long right = pop();
                    push(Bits.ofTwo(doing, pop(), right, (int) with));
            }
        }
    }

    /** The description of RV32IM. Ops that have words for names bear a _ more. */
    private static final class Shipped {
        final byte[] row = new byte[SHIPPED_ROOM];
        int size;

        void write() {
            put("bits 32; reg pc: 32; file x: 32[32] zero; file m: 8[32768]; fetch pc from m;");
            op("lui", "iiiiiiiiiiiiiiiiiiiiddddd0110111", "x[d] = {i, 12'0};");
            op("auipc", "iiiiiiiiiiiiiiiiiiiiddddd0010111", "x[d] = pc + {i, 12'0};");
            op("jal", "abbbbbbbbbbceeeeeeeeddddd1101111",
                    "let to = pc + sx({a, e, c, b, 1'0}, 32); if to[1:0] != 2'0 { trap 1; } x[d] = pc + 32'4; pc = to;");
            op("jalr", "iiiiiiiiiiiisssss000ddddd1100111",
                    "let to = x[s] + sx(i, 32) & 32'0xfffffffe; if to[1:0] != 2'0 { trap 1; } x[d] = pc + 32'4; pc = to;");
            branch("beq", "000", "x[s] == x[t]");
            branch("bne", "001", "x[s] != x[t]");
            branch("blt", "100", "slt(x[s], x[t])");
            branch("bge", "101", "!slt(x[s], x[t])");
            branch("bltu", "110", "x[s] < x[t]");
            branch("bgeu", "111", "x[t] <= x[s]");
            load("lb", "000", "sx(m[p], 32)");
            load("lh", "001", "sx({m[p + 32'1], m[p]}, 32)");
            load("lw", "010", "{m[p + 32'3], m[p + 32'2], m[p + 32'1], m[p]}");
            load("lbu", "100", "zx(m[p], 32)");
            load("lhu", "101", "zx({m[p + 32'1], m[p]}, 32)");
            store("sb", "000", "");
            store("sh", "001", "m[p + 32'1] = x[t][15:8];");
            store("sw", "010",
                    "m[p + 32'1] = x[t][15:8]; m[p + 32'2] = x[t][23:16]; m[p + 32'3] = x[t][31:24];");
            writeOfConstants();
            writeOfTwo();
            op("fence", ".................000.....0001111", "");
            op("ecall", "00000000000000000000000001110011", "trap 8;");
            op("ebreak", "00000000000100000000000001110011", "trap 3;");
            writeProducts();
        }

        private void writeOfConstants() {
            constant("addi", "000", "x[s] + sx(i, 32)");
            constant("slti", "010", "zx(slt(x[s], sx(i, 32)), 32)");
            constant("sltiu", "011", "zx(x[s] < sx(i, 32), 32)");
            constant("xori", "100", "x[s] ^ sx(i, 32)");
            constant("ori", "110", "x[s] | sx(i, 32)");
            constant("andi", "111", "x[s] & sx(i, 32)");
            shift("slli", "0000000", "001", "x[s] << h");
            shift("srli", "0000000", "101", "x[s] >> h");
            shift("srai", "0100000", "101", "sra(x[s], h)");
        }

        private void writeOfTwo() {
            ofTwo("add", "0000000", "000", "x[s] + x[t]");
            ofTwo("sub", "0100000", "000", "x[s] - x[t]");
            ofTwo("sll", "0000000", "001", "x[s] << x[t][4:0]");
            ofTwo("slt_", "0000000", "010", "zx(slt(x[s], x[t]), 32)");
            ofTwo("sltu", "0000000", "011", "zx(x[s] < x[t], 32)");
            ofTwo("xor", "0000000", "100", "x[s] ^ x[t]");
            ofTwo("srl", "0000000", "101", "x[s] >> x[t][4:0]");
            ofTwo("sra_", "0100000", "101", "sra(x[s], x[t][4:0])");
            ofTwo("or", "0000000", "110", "x[s] | x[t]");
            ofTwo("and", "0000000", "111", "x[s] & x[t]");
        }

        private void writeProducts() {
            ofTwo("mul", "0000001", "000", "x[s] * x[t]");
            ofTwo("mulh", "0000001", "001", "(sx(x[s], 64) * sx(x[t], 64))[63:32]");
            ofTwo("mulhsu", "0000001", "010", "(sx(x[s], 64) * zx(x[t], 64))[63:32]");
            ofTwo("mulhu", "0000001", "011", "(zx(x[s], 64) * zx(x[t], 64))[63:32]");
            ofTwo("div", "0000001", "100", "sdiv(x[s], x[t])");
            ofTwo("divu", "0000001", "101", "x[s] / x[t]");
            ofTwo("rem", "0000001", "110", "srem(x[s], x[t])");
            ofTwo("remu", "0000001", "111", "x[s] % x[t]");
        }

        private void branch(String name, String funct, String condition) {
            head(name, "abbbbbbtttttsssss", funct, "cccce1100011");
            put("if ");
            put(condition);
            put("{ let to = pc + sx({a, e, b, c, 1'0}, 32); if to[1:0] != 2'0 { trap 1; } pc = to; } }");
        }

        private void load(String name, String funct, String value) {
            head(name, "iiiiiiiiiiiisssss", funct, "ddddd0000011");
            put("let p = x[s] + sx(i, 32); x[d] = ");
            put(value);
            put("; }");
        }

        private void store(String name, String funct, String more) {
            head(name, "iiiiiiitttttsssss", funct, "jjjjj0100011");
            put("let p = x[s] + sx({i, j}, 32); m[p] = x[t][7:0]; ");
            put(more);
            put(" }");
        }

        private void constant(String name, String funct, String value) {
            head(name, "iiiiiiiiiiiisssss", funct, "ddddd0010011");
            result(value);
        }

        private void shift(String name, String high, String funct, String value) {
            put("op ");
            put(name);
            put(" \"");
            put(high);
            put("hhhhhsssss");
            put(funct);
            put("ddddd0010011\" { ");
            result(value);
        }

        private void ofTwo(String name, String high, String funct, String value) {
            put("op ");
            put(name);
            put(" \"");
            put(high);
            put("tttttsssss");
            put(funct);
            put("ddddd0110011\" { ");
            result(value);
        }

        private void result(String value) {
            put("x[d] = ");
            put(value);
            put("; }");
        }

        private void op(String name, String code, String doings) {
            head(name, code, "", "");
            put(doings);
            put(" }");
        }

        private void head(String name, String high, String funct, String low) {
            put(" op ");
            put(name);
            put(" \"");
            put(high);
            put(funct);
            put(low);
            put("\" { ");
        }

        private void put(String text) {
            for (int i = 0; i < text.length() && size < SHIPPED_ROOM; i++) {
                row[size] = (byte) text.charAt(i);
                size++;
            }
        }
    }
}
