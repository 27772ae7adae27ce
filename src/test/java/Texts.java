import java.util.ArrayList;
import java.util.Arrays;
import java.util.List;
import java.util.Random;

/** Makes texts of machines: most are right, and a spoilt one has a change or two. */
final class Texts {
    private static final int[] WIDTHS = {1, 1, 2, 3, 5, 8, 8, 8, 16, 31, 32, 33, 63, 64};
    private static final String[] SIGNS = {
        "==", "!=", "<=", "<<", ">>", ";", "{", "}", "(", ")", "[", "]", "=", ":", ",", "?", "'", "<", "+",
        "-", "*", "/", "%", "&", "|", "^", "~", "!", "bits", "reg", "file", "zero", "fetch", "from", "op",
        "let", "trap", "if", "else", "sx", "zx", "slt", "sdiv", "srem", "sra", "\"0101abcd\"", "\"\"", "1",
        "8", "0", "64", "65", "0x1f", "p", "q", "f", "g", "a", "b", "c", "x0", "y_", "unknown", "_"};

    /** Signs and words of which each may stand where another one does. */
    private static final String[] ALIKE = {
        "== != <= < << >> + - * / % & | ^", "~ ! -", "sx zx", "slt sdiv srem sra"};
    private static final String WORDS =
            " bits reg file zero fetch from op let trap if else sx zx slt sdiv srem sra ";

    private final Random random;
    private final List<String> tokens = new ArrayList<>();
    int length;
    private final List<String> registers = new ArrayList<>();
    private final List<Integer> registerWidths = new ArrayList<>();
    private final List<String> files = new ArrayList<>();
    private final List<Integer> fileWidths = new ArrayList<>();
    private final List<Integer> fileCells = new ArrayList<>();
    private final List<String> lets = new ArrayList<>();
    private final List<Integer> letWidths = new ArrayList<>();
    private String code;
    final List<String> codes = new ArrayList<>();
    private int names;
    private int letsOfOp;

    Texts(Random random) {
        this.random = random;
    }

    private int below(int n) {
        return random.nextInt(n);
    }

    private boolean oneIn(int n) {
        return below(n) == 0;
    }

    private int width() {
        return oneIn(4) ? 1 + below(64) : WIDTHS[below(WIDTHS.length)];
    }

    private void put(String... more) {
        for (String s : more) {
            tokens.add(s);
        }
    }

    private String number(long n) {
        if (oneIn(3)) {
            String zeros = oneIn(4) ? "00" : "";
            String hex = Long.toHexString(n);
            return "0x" + (hex.length() < 15 ? zeros : "") + (oneIn(2) ? hex.toUpperCase() : hex);
        }
        return (oneIn(10) ? "0" : "") + Long.toUnsignedString(n);
    }

    private String newName() {
        names++;
        if (names < 20 && oneIn(2)) {
            return String.valueOf((char) ('a' + names));
        }
        return (oneIn(3) ? "_" : "n") + names + (oneIn(6) ? "_with_a_longer_name_" : "");
    }

    List<String> make() {
        length = new int[] {8, 8, 16, 32, 64}[below(5)];
        put("bits", number(length), ";");
        int things = below(7);
        for (int i = 0; i < things; i++) {
            addThing();
        }
        if (oneIn(2)) {
            addFetch();
        }
        int ops = 1 + below(5);
        for (int i = 0; i < ops; i++) {
            addOp(i, ops);
            if (oneIn(8)) {
                addThing();
            }
        }
        return tokens;
    }

    private void addThing() {
        String name = newName();
        int width = width();
        if (oneIn(2)) {
            put("reg", name, ":", number(width), ";");
            registers.add(name);
            registerWidths.add(width);
            return;
        }
        int cells = 1 + below(oneIn(3) ? 300 : 9);
        put("file", name, ":", number(width), "[", number(cells), "]");
        if (oneIn(3)) {
            put("zero");
        }
        put(";");
        files.add(name);
        fileWidths.add(width);
        fileCells.add(cells);
    }

    private void addFetch() {
        String register = newName();
        String file = newName();
        int width = 3 + below(oneIn(2) ? 3 : 60);
        put("reg", register, ":", number(width), ";", "file", file, ":", "8", "[", number(1 + below(70)), "]", ";");
        registers.add(register);
        registerWidths.add(width);
        files.add(file);
        fileWidths.add(8);
        fileCells.add(1);
        put("fetch", register, "from", file, ";");
    }

    /** The first signs are the op's number, so that ops are apart; now and then they are not. */
    private void addOp(int number, int ops) {
        StringBuilder b = new StringBuilder();
        for (int i = 0; i < 3; i++) {
            boolean one = (number >> i & 1) != 0;
            b.append(oneIn(60) ? '.' : one ? '1' : '0');
        }
        String letters = oneIn(3) ? "abcde" : "stuvwxyz";
        int run = 0;
        char sign = '.';
        while (b.length() < length) {
            if (run == 0) {
                run = 1 + below(6);
                sign = oneIn(6) ? "01.".charAt(below(3)) : letters.charAt(below(letters.length()));
            }
            b.append(sign);
            run--;
        }
        if (oneIn(5)) {
            b.reverse();
            // Turned round, the CODE may not be apart from others any more; that's a FAULT to compare, too.
        }
        code = b.toString();
        codes.add(code);
        put("op", "op_" + number, "\"" + code + "\"");
        letsOfOp = 0;
        block(0);
        code = null;
    }

    private void block(int depth) {
        int kept = lets.size();
        put("{");
        int statements = below(depth == 0 ? 5 : 3);
        for (int i = 0; i < statements; i++) {
            statement(depth);
        }
        put("}");
        while (lets.size() > kept) {
            lets.remove(lets.size() - 1);
            letWidths.remove(letWidths.size() - 1);
        }
    }

    private boolean hidden(String name) {
        return name.length() == 1 && code.contains(name);
    }

    private void statement(int depth) {
        int what = below(12);
        if (what < 2 && letsOfOp < 60) {
            String name = newName() + "l";
            int width = width();
            put("let", name, "=");
            expr(width, 3);
            put(";");
            lets.add(name);
            letWidths.add(width);
            letsOfOp++;
        } else if (what < 4 && depth < 4) {
            ifStatement(depth);
        } else if (what == 4 && oneIn(3)) {
            put("trap", number(1 + below(1000000)), ";");
        } else if (what < 8 && !registers.isEmpty()) {
            int i = below(registers.size());
            if (!hidden(registers.get(i))) {
                put(registers.get(i), "=");
                expr(registerWidths.get(i), 4);
                put(";");
            }
        } else if (!files.isEmpty()) {
            int i = below(files.size());
            if (!hidden(files.get(i))) {
                put(files.get(i), "[");
                index(i, 3);
                put("]", "=");
                expr(fileWidths.get(i), 4);
                put(";");
            }
        }
    }

    private void ifStatement(int depth) {
        put("if");
        expr(1, 3);
        block(depth + 1);
        if (oneIn(2)) {
            put("else");
            if (oneIn(2)) {
                ifStatement(depth);
            } else {
                block(depth + 1);
            }
        }
    }

    private void index(int file, int depth) {
        if (oneIn(3)) {
            expr(width(), depth - 1);
        } else {
            put("16", "'", number(below(fileCells.get(file))));
        }
    }

    private void literal(int width) {
        long value = random.nextLong();
        if (oneIn(3)) {
            value = below(4);
        } else if (oneIn(4)) {
            value = oneIn(2) ? -1L : 1L << width - 1;
        }
        put(number(width), "'", number(width == 64 ? value : value & (1L << width) - 1));
    }

    private void primary(int width) {
        List<String> fitting = new ArrayList<>();
        for (int i = 0; i < registers.size(); i++) {
            if (registerWidths.get(i) == width && !hidden(registers.get(i))) {
                fitting.add(registers.get(i));
            }
        }
        for (int i = 0; i < lets.size(); i++) {
            if (letWidths.get(i) == width) {
                fitting.add(lets.get(i));
            }
        }
        for (char c = 'A'; c <= 'z'; c++) {
            int in = code.length() - code.replace(String.valueOf(c), "").length();
            if (in == width) {
                fitting.add(String.valueOf(c));
            }
        }
        if (fitting.isEmpty() || oneIn(4)) {
            literal(width);
        } else {
            put(fitting.get(below(fitting.size())));
        }
    }

    private void expr(int width, int depth) {
        if (depth <= 0 || oneIn(6)) {
            primary(width);
            return;
        }
        boolean open = oneIn(2);
        if (open) {
            put("(");
        }
        inner(width, depth - 1);
        if (open) {
            put(")");
        }
    }

    private void closed(int width, int depth) {
        put("(");
        expr(width, depth);
        put(")");
    }

    private void inner(int width, int depth) {
        switch (below(width == 1 ? 12 : 10)) {
            case 0:
            case 1:
                closed(width, depth);
                put(new String[] {"+", "-", "*", "/", "%", "&", "|", "^"}[below(8)]);
                closed(width, depth);
                break;
            case 2:
                expr(width, depth);
                put(new String[] {"+", "-", "*", "/", "%"}[below(5)]);
                closed(width, depth);
                put(new String[] {"+", "-", "*", "/", "%"}[below(5)]);
                primary(width);
                break;
            case 3:
                closed(width, depth);
                put(oneIn(2) ? "<<" : ">>");
                closed(oneIn(2) ? 3 : width(), depth);
                break;
            case 4:
                put(width == 1 ? new String[] {"-", "~", "!"}[below(3)] : oneIn(2) ? "-" : "~");
                closed(width, depth);
                break;
            case 5:
                closed(1, depth);
                put("?");
                expr(width, depth);
                put(":");
                expr(width, depth);
                break;
            case 6:
                call(width, depth);
                break;
            case 7:
                part(width, depth);
                break;
            case 8:
                join(width, depth);
                break;
            case 9:
                cell(width, depth);
                break;
            default:
                int side = width();
                closed(side, depth);
                put(new String[] {"==", "!=", "<", "<="}[below(4)]);
                closed(side, depth);
        }
    }

    private void call(int width, int depth) {
        if (width == 1 && oneIn(2)) {
            int side = width();
            put("slt", "(");
            expr(side, depth);
            put(",");
            expr(side, depth);
            put(")");
        } else if (oneIn(3)) {
            put(oneIn(2) ? "sx" : "zx", "(");
            expr(1 + below(width), depth);
            put(",", number(width), ")");
        } else {
            boolean shift = oneIn(3);
            put(shift ? "sra" : oneIn(2) ? "sdiv" : "srem", "(");
            expr(width, depth);
            put(",");
            expr(shift && oneIn(2) ? width() : width, depth);
            put(")");
        }
    }

    private void part(int width, int depth) {
        int whole = width + below(65 - width);
        int low = below(whole - width + 1);
        closed(whole, depth);
        if (width == 1 && oneIn(2)) {
            put("[", number(low), "]");
        } else {
            put("[", number(low + width - 1), ":", number(low), "]");
        }
    }

    private void join(int width, int depth) {
        put("{");
        int rest = width;
        while (rest > 1 && oneIn(2)) {
            int some = 1 + below(rest - 1);
            expr(some, depth);
            put(",");
            rest -= some;
        }
        expr(rest, depth);
        put("}");
    }

    private void cell(int width, int depth) {
        for (int i = 0; i < files.size(); i++) {
            if (fileWidths.get(i) == width && !hidden(files.get(i))) {
                put(files.get(i), "[");
                index(i, depth);
                put("]");
                return;
            }
        }
        primary(width);
    }

    /** The text with one TOKEN that is another one of its kind; what was made stays. */
    String spoiltMeaning() {
        List<String> kept = new ArrayList<>(tokens);
        int at = below(tokens.size());
        tokens.set(at, likeIt(tokens.get(at)));
        String text = text();
        tokens.clear();
        tokens.addAll(kept);
        return text;
    }

    /** Changes a TOKEN or two. */
    void spoil() {
        int changes = 1 + below(2);
        for (int i = 0; i < changes; i++) {
            int at = below(tokens.size());
            String old = tokens.get(at);
            switch (below(6)) {
                case 0:
                    tokens.remove(at);
                    tokens.add("");
                    break;
                case 1:
                    tokens.add(at, SIGNS[below(SIGNS.length)]);
                    break;
                case 2:
                    tokens.set(at, SIGNS[below(SIGNS.length)]);
                    break;
                case 3:
                    tokens.set(at, tokens.get(below(tokens.size())));
                    break;
                default:
                    tokens.set(at, likeIt(old));
            }
        }
    }

    /** Another TOKEN of the same kind, so that the grammar stays and the meaning is another one. */
    private String likeIt(String old) {
        if (old.isEmpty()) {
            return old;
        }
        char c = old.charAt(0);
        if (Character.isDigit(c)) {
            return number(new long[] {0, 1, 2, 7, 8, 9, 16, 63, 64, 65, 65536, 65537, 1000001, -1L}[below(14)]);
        }
        if (c == '"') {
            return oneIn(2) ? "\"" + old.substring(1, old.length() - 1) + "1\"" : old.replace('0', '1');
        }
        for (String alike : ALIKE) {
            String[] same = alike.split(" ");
            if (Arrays.asList(same).contains(old)) {
                return same[below(same.length)];
            }
        }
        boolean name = isName(old);
        for (int turn = 0; turn < 100 && name; turn++) {
            String other = tokens.get(below(tokens.size()));
            if (isName(other)) {
                return oneIn(8) ? "unknown" : other;
            }
        }
        return old;
    }

    private static boolean isName(String token) {
        return token.matches("[A-Za-z_].*") && !WORDS.contains(" " + token + " ");
    }

    String text() {
        StringBuilder b = new StringBuilder();
        String[] spaces = {" ", "", "  ", "\n", "\t", "# a remark \"{\n", "\r\n", "#\n"};
        char last = ' ';
        for (String t : tokens) {
            if (t.isEmpty()) {
                continue;
            }
            char c = t.charAt(0);
            boolean touch = word(last) && word(c) || (last + "" + c).matches("==|!=|<=|<<|>>");
            String space = spaces[oneIn(4) ? below(spaces.length) : below(2)];
            b.append(touch && space.isEmpty() ? " " : space).append(t);
            last = t.charAt(t.length() - 1);
        }
        return b.toString();
    }

    private static boolean word(char c) {
        return Character.isLetterOrDigit(c) || c == '_';
    }

    /** A change of one character, anywhere. */
    String spoilCharacter(String text) {
        String pool = "01239abfxyzXF_.\"'>=!<&;:{}()[]?,#\n \t@$\\\u0000\u00e4~-+*/";
        int at = below(text.length());
        char c = pool.charAt(below(pool.length()));
        switch (below(3)) {
            case 0:
                return text.substring(0, at) + c + text.substring(at + 1);
            case 1:
                return text.substring(0, at) + c + text.substring(at);
            default:
                return text.substring(0, at) + text.substring(at + 1);
        }
    }

    /** A word of that op, or of any. */
    long word() {
        long word = random.nextLong();
        if (oneIn(5)) {
            return word;
        }
        String some = codes.get(below(codes.size()));
        for (int i = 0; i < length; i++) {
            long bit = 1L << length - 1 - i;
            char sign = some.charAt(i);
            word = sign == '1' ? word | bit : sign == '0' ? word & ~bit : word;
        }
        return word;
    }
}
