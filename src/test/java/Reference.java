import java.math.BigInteger;
import java.nio.charset.StandardCharsets;
import java.util.ArrayList;
import java.util.Arrays;
import java.util.HashMap;
import java.util.HashSet;
import java.util.List;
import java.util.Map;
import java.util.Set;
import java.util.regex.Matcher;
import java.util.regex.Pattern;

/**
 * The document once more, written in another way than the program: trees by recursion, whole numbers of
 * any size, copies of the whole state. It is slow, and it is what the program is compared with.
 */
final class Reference {
    private static final Set<String> WORDS = new HashSet<>(Arrays.asList(
            ("bits reg file zero fetch from op let trap if else sx zx slt sdiv srem sra").split(" ")));
    private static final Pattern BLANK = Pattern.compile("[\\t\\n\\r ]+|#[^\\n]*");
    private static final Pattern NAME = Pattern.compile("[A-Za-z_][A-Za-z_0-9]*");
    private static final Pattern DIGITS = Pattern.compile("0x[0-9a-fA-F]*|[0-9]+");
    private static final Pattern CODE = Pattern.compile("\"[01.A-Za-z]*");
    private static final Pattern SIGN = Pattern.compile("==|!=|<=|<<|>>|[;{}()\\[\\]=:,?'<+\\-*/%&|^~!]");
    private static final BigInteger TOP = BigInteger.ONE.shiftLeft(64);
    private static final String[][] LEVELS = {
        {"|"}, {"^"}, {"&"}, {"==", "!="}, {"<", "<="}, {"<<", ">>"}, {"+", "-"}, {"*", "/", "%"}};

    static final class Wrong extends RuntimeException {
        final int place;

        Wrong(int place) {
            this.place = place;
        }
    }

    static final class Trap extends RuntimeException {
        final int number;

        Trap(int number) {
            this.number = number;
        }
    }

    static final class Tok {
        final char kind; // N name, W word, 9 number, C code, S sign, B broken, E end
        final String text;
        final int place;
        BigInteger number;

        Tok(char kind, String text, int place) {
            this.kind = kind;
            this.text = text;
            this.place = place;
        }

        boolean is(String s) {
            return (kind == 'S' || kind == 'W') && text.equals(s);
        }
    }

    static final class Node {
        final String what;
        final Tok tok;
        final List<Node> kids = new ArrayList<>();
        final List<Tok> numbers = new ArrayList<>();
        Integer width;
        Object meaning;

        Node(String what, Tok tok, Node... kids) {
            this.what = what;
            this.tok = tok;
            this.kids.addAll(Arrays.asList(kids));
        }
    }

    static final class Thing {
        String name;
        boolean isFile;
        Integer width;
        int cells;
        boolean zero;
        int number;
    }

    static final class Let {
        Integer width;
        BigInteger value;
    }

    static final class Op {
        String name;
        String code;
        List<Node> block;
    }

    // What was read.
    int fault;
    int place = -1;
    int other = -1;
    int length = 8;
    final List<Thing> things = new ArrayList<>();
    final List<Op> ops = new ArrayList<>();
    Thing fetchRegister;
    Thing fetchFile;

    private final String text;
    private final List<Tok> toks = new ArrayList<>();
    private int at;
    private int depth;
    private final Map<String, Thing> known = new HashMap<>();
    private String code;
    private final List<Map<String, Let>> scopes = new ArrayList<>();
    private int lets;

    Reference(byte[] bytes) {
        text = new String(bytes, StandardCharsets.ISO_8859_1);
        cut();
        try {
            readText();
        } catch (Wrong w) {
            fault = 1;
            place = w.place;
            return;
        }
        if (fault == 0) {
            compareCodes();
        }
    }

    // ---- TOKENS

    private void cut() {
        int i = 0;
        while (true) {
            for (String blank = match(BLANK, i); blank != null; blank = match(BLANK, i)) {
                i += blank.length();
            }
            if (i == text.length()) {
                toks.add(new Tok('E', "", i));
                return;
            }
            i = cutOne(i);
            if (i < 0) {
                return;
            }
        }
    }

    private String match(Pattern p, int from) {
        Matcher m = p.matcher(text).region(from, text.length());
        return m.lookingAt() ? m.group() : null;
    }

    private int brokenAt(int i) {
        toks.add(new Tok('B', "", Math.min(i, text.length())));
        return -1;
    }

    private int cutOne(int i) {
        String s = match(NAME, i);
        if (s != null) {
            if (s.length() > 32) {
                return brokenAt(i + 32);
            }
            toks.add(new Tok(WORDS.contains(s) ? 'W' : 'N', s, i));
            return i + s.length();
        }
        s = match(DIGITS, i);
        if (s != null) {
            return cutNumber(i, s);
        }
        s = match(CODE, i);
        if (s != null) {
            int behind = i + s.length();
            if (behind == text.length() || text.charAt(behind) != '"') {
                return brokenAt(behind);
            }
            toks.add(new Tok('C', s.substring(1), i));
            return behind + 1;
        }
        s = match(SIGN, i);
        if (s != null) {
            toks.add(new Tok('S', s, i));
            return i + s.length();
        }
        return brokenAt(text.charAt(i) == '>' ? i + 1 : i);
    }

    private int cutNumber(int i, String s) {
        BigInteger n = BigInteger.ZERO;
        if (s.startsWith("0x")) {
            if (s.length() == 2) {
                return brokenAt(i + 2);
            }
            if (s.length() > 18) {
                return brokenAt(i + 18);
            }
            n = new BigInteger(s.substring(2), 16);
        } else {
            for (int k = 0; k < s.length(); k++) {
                n = n.multiply(BigInteger.TEN).add(BigInteger.valueOf(s.charAt(k) - '0'));
                if (n.compareTo(TOP) >= 0) {
                    return brokenAt(i + k);
                }
            }
        }
        int behind = i + s.length();
        if (match(NAME, behind) != null) {
            return brokenAt(behind);
        }
        Tok t = new Tok('9', s, i);
        t.number = n;
        toks.add(t);
        return behind;
    }

    // ---- grammar

    private Tok now() {
        return toks.get(at);
    }

    private Tok take() {
        return toks.get(at++);
    }

    private Tok need(String s) {
        if (!now().is(s)) {
            throw new Wrong(now().place);
        }
        return take();
    }

    private Tok need(char kind) {
        if (now().kind != kind) {
            throw new Wrong(now().place);
        }
        return take();
    }

    private Tok opener(String s) {
        Tok t = need(s);
        if (depth == 60) {
            throw new Wrong(t.place);
        }
        depth++;
        return t;
    }

    private void closer(String s) {
        need(s);
        depth--;
    }

    private void tell(Tok t, int number) {
        if (fault == 0 || t.place < place || t.place == place && number < fault) {
            fault = number;
            place = t.place;
        }
    }

    private static boolean in(BigInteger n, long least, long most) {
        return n.compareTo(BigInteger.valueOf(least)) >= 0 && n.compareTo(BigInteger.valueOf(most)) <= 0;
    }

    private void readText() {
        need("bits");
        Tok n = need('9');
        need(";");
        if (Arrays.asList("8", "16", "32", "64").contains(n.number.toString())) {
            length = n.number.intValue();
        } else {
            tell(n, 3);
        }
        while (now().kind != 'E') {
            if (now().is("reg")) {
                readReg();
            } else if (now().is("file")) {
                readFile();
            } else if (now().is("fetch")) {
                readFetch();
            } else {
                readOp();
            }
        }
    }

    private void readReg() {
        take();
        Tok name = need('N');
        need(":");
        Tok width = need('9');
        need(";");
        Thing t = new Thing();
        boolean ok = in(width.number, 1, 64);
        t.width = ok ? width.number.intValue() : null;
        if (!ok) {
            tell(width, 3);
        }
        addThing(name, t);
    }

    private void readFile() {
        take();
        Tok name = need('N');
        need(":");
        Tok width = need('9');
        need("[");
        Tok cells = need('9');
        need("]");
        Thing t = new Thing();
        t.isFile = true;
        if (now().is("zero")) {
            take();
            t.zero = true;
        }
        need(";");
        boolean widthOk = in(width.number, 1, 64);
        boolean cellsOk = in(cells.number, 1, 65536);
        if (!widthOk) {
            tell(width, 3);
        }
        if (!cellsOk) {
            tell(cells, 3);
        }
        if (widthOk && cellsOk) {
            t.width = width.number.intValue();
            t.cells = cells.number.intValue();
        }
        addThing(name, t);
    }

    int allCells() {
        int sum = 0;
        for (Thing t : things) {
            sum += t.cells;
        }
        return sum;
    }

    private void addThing(Tok name, Thing t) {
        if (known.containsKey(name.text)) {
            tell(name, 2);
            return;
        }
        if (things.size() >= 64 || allCells() + t.cells > 65536) {
            tell(name, 6);
            return;
        }
        t.name = name.text;
        t.number = things.size();
        things.add(t);
        known.put(name.text, t);
    }

    private void readFetch() {
        Tok word = take();
        Tok register = need('N');
        need("from");
        Tok file = need('N');
        need(";");
        if (fetchFile != null) {
            tell(word, 6);
        }
        Thing r = known.get(register.text);
        Thing f = known.get(file.text);
        boolean registerOk = r != null && !r.isFile;
        boolean fileOk = f != null && f.isFile && f.width != null && f.width == 8;
        if (!registerOk) {
            tell(register, 2);
        }
        if (!fileOk) {
            tell(file, 2);
        }
        if (registerOk && fileOk) {
            fetchRegister = r;
            fetchFile = f;
        }
    }

    private void readOp() {
        need("op");
        Tok name = need('N');
        Tok signs = need('C');
        code = signs.text;
        lets = 0;
        Op op = new Op();
        op.name = name.text;
        op.code = signs.text;
        for (Op o : ops) {
            if (o.name.equals(op.name)) {
                tell(name, 2);
            }
        }
        if (ops.size() >= 512) {
            tell(name, 6);
        }
        if (code.length() != length) {
            tell(signs, 5);
        }
        op.block = readBlock();
        ops.add(op);
        code = null;
    }

    private List<Node> readBlock() {
        opener("{");
        scopes.add(new HashMap<>());
        List<Node> block = new ArrayList<>();
        while (!now().is("}")) {
            block.add(readStatement());
        }
        closer("}");
        scopes.remove(scopes.size() - 1);
        return block;
    }

    /** A Thing, a Let, a Character (a FIELD), or null. */
    private Object meaningOf(String name) {
        if (code != null && name.length() == 1 && !name.equals("_") && code.contains(name)) {
            return name.charAt(0);
        }
        for (Map<String, Let> scope : scopes) {
            if (scope.containsKey(name)) {
                return scope.get(name);
            }
        }
        return known.get(name);
    }

    private Node readStatement() {
        if (now().is("let")) {
            return readLet();
        }
        if (now().is("trap")) {
            Node n = new Node("trap", take());
            n.numbers.add(need('9'));
            need(";");
            if (!in(n.numbers.get(0).number, 1, 1000000)) {
                tell(n.numbers.get(0), 3);
            }
            return n;
        }
        if (now().is("if")) {
            return readIf();
        }
        return readAssignment();
    }

    private Node readLet() {
        take();
        Tok name = need('N');
        need("=");
        Node value = readExpr();
        need(";");
        Node n = new Node("let", name, value);
        if (meaningOf(name.text) != null) {
            tell(name, 2);
            return n;
        }
        lets++;
        if (lets > 64) {
            tell(name, 6);
        }
        Let let = new Let();
        let.width = value.width;
        n.meaning = let;
        scopes.get(scopes.size() - 1).put(name.text, let);
        return n;
    }

    private Node readIf() {
        Tok word = take();
        Node condition = readExpr();
        if (condition.width != null && condition.width != 1) {
            tell(word, 4);
        }
        Node n = new Node("if", word, condition, blockNode(readBlock()));
        if (now().is("else")) {
            take();
            n.kids.add(now().is("if") ? readIf() : blockNode(readBlock()));
        }
        return n;
    }

    private static Node blockNode(List<Node> block) {
        Node n = new Node("block", null);
        n.kids.addAll(block);
        return n;
    }

    private Node readAssignment() {
        Tok name = need('N');
        Object meaning = meaningOf(name.text);
        boolean indexed = now().is("[");
        boolean ok = meaning instanceof Thing && ((Thing) meaning).isFile == indexed;
        if (!ok) {
            tell(name, 2);
        }
        Node n = new Node(indexed ? "cell=" : "register=", name);
        n.meaning = meaning;
        if (indexed) {
            opener("[");
            n.kids.add(readExpr());
            closer("]");
        }
        Tok sign = need("=");
        Node value = readExpr();
        n.kids.add(value);
        need(";");
        Integer due = ok ? ((Thing) meaning).width : null;
        if (due != null && value.width != null && !due.equals(value.width)) {
            tell(sign, 4);
        }
        return n;
    }

    private Node readExpr() {
        Node first = readLevel(0);
        if (!now().is("?")) {
            return first;
        }
        Tok sign = opener("?");
        Node yes = readExpr();
        need(":");
        Node no = readExpr();
        depth--;
        Node n = new Node("?", sign, first, yes, no);
        if (first.width != null && yes.width != null && no.width != null) {
            if (first.width == 1 && yes.width.equals(no.width)) {
                n.width = yes.width;
            } else {
                tell(sign, 4);
            }
        }
        return n;
    }

    private Node readLevel(int level) {
        if (level == LEVELS.length) {
            return readUnary();
        }
        Node left = readLevel(level + 1);
        while (now().kind == 'S' && Arrays.asList(LEVELS[level]).contains(now().text)) {
            Tok sign = take();
            Node right = readLevel(level + 1);
            left = two(sign.text, sign, left, right);
        }
        return left;
    }

    private Node two(String what, Tok tok, Node left, Node right) {
        Node n = new Node(what, tok, left, right);
        if (left.width == null || right.width == null) {
            return n;
        }
        boolean shift = Arrays.asList("<<", ">>", "sra").contains(what);
        boolean bit = Arrays.asList("==", "!=", "<", "<=", "slt").contains(what);
        if (!shift && !left.width.equals(right.width)) {
            tell(tok, 4);
            return n;
        }
        n.width = bit ? Integer.valueOf(1) : left.width;
        return n;
    }

    private Node readUnary() {
        if (now().is("-") || now().is("~") || now().is("!")) {
            Tok sign = opener(now().text);
            Node kid = readUnary();
            depth--;
            Node n = new Node("un" + sign.text, sign, kid);
            n.width = kid.width;
            if (sign.text.equals("!") && kid.width != null && kid.width != 1) {
                tell(sign, 4);
                n.width = null;
            }
            return n;
        }
        Node n = readPrimary();
        while (now().is("[")) {
            n = readPart(n);
        }
        return n;
    }

    private Node readPart(Node kid) {
        Node n = new Node("part", opener("["), kid);
        Tok high = need('9');
        Tok low = high;
        if (now().is(":")) {
            take();
            low = need('9');
        }
        closer("]");
        n.numbers.add(high);
        n.numbers.add(low);
        boolean ok = true;
        if (kid.width != null && !in(high.number, 0, kid.width - 1)) {
            tell(high, 3);
            ok = false;
        }
        if (low.number.compareTo(high.number) > 0) {
            tell(low, 3);
            ok = false;
        }
        if (ok && kid.width != null) {
            n.width = high.number.subtract(low.number).intValue() + 1;
        }
        return n;
    }

    private Node readPrimary() {
        Tok t = now();
        if (t.kind == '9') {
            return readLiteral();
        }
        if (t.kind == 'N') {
            return readName();
        }
        if (t.is("(")) {
            opener("(");
            Node n = readExpr();
            closer(")");
            return n;
        }
        if (t.is("{")) {
            return readJoin();
        }
        if (t.is("sx") || t.is("zx")) {
            return readWiden();
        }
        if (t.is("slt") || t.is("sdiv") || t.is("srem") || t.is("sra")) {
            take();
            opener("(");
            Node left = readExpr();
            need(",");
            Node right = readExpr();
            closer(")");
            return two(t.text, t, left, right);
        }
        throw new Wrong(t.place);
    }

    private Node readLiteral() {
        Tok width = take();
        need("'");
        Tok value = need('9');
        Node n = new Node("literal", value);
        if (!in(width.number, 1, 64)) {
            tell(width, 3);
        } else if (value.number.bitLength() > width.number.intValue()) {
            tell(value, 3);
        } else {
            n.width = width.number.intValue();
        }
        return n;
    }

    private Node readName() {
        Tok t = take();
        Object meaning = meaningOf(t.text);
        Node n = new Node("name", t);
        n.meaning = meaning;
        if (meaning instanceof Thing && ((Thing) meaning).isFile) {
            if (!now().is("[")) {
                tell(t, 2);
                return n;
            }
            Node cell = new Node("cell", t);
            cell.meaning = meaning;
            opener("[");
            cell.kids.add(readExpr());
            closer("]");
            cell.width = cell.kids.get(0).width == null ? null : ((Thing) meaning).width;
            return cell;
        }
        if (meaning == null) {
            tell(t, 2);
        } else if (meaning instanceof Thing) {
            n.width = ((Thing) meaning).width;
        } else if (meaning instanceof Let) {
            n.width = ((Let) meaning).width;
        } else {
            n.width = code.length() == length ? Integer.valueOf(code.replaceAll("[^" + t.text + "]", "").length()) : null;
        }
        return n;
    }

    private Node readJoin() {
        Node n = new Node("join", opener("{"), readExpr());
        while (now().is(",")) {
            take();
            n.kids.add(readExpr());
        }
        closer("}");
        int sum = 0;
        for (Node kid : n.kids) {
            if (kid.width == null) {
                return n;
            }
            sum += kid.width;
        }
        if (sum > 64) {
            tell(n.tok, 4);
        } else {
            n.width = sum;
        }
        return n;
    }

    private Node readWiden() {
        Tok word = take();
        opener("(");
        Node kid = readExpr();
        need(",");
        Tok number = need('9');
        closer(")");
        Node n = new Node(word.text, word, kid);
        boolean out = !in(number.number, 1, 64);
        if (!out && kid.width != null) {
            out = number.number.intValue() < kid.width;
        }
        if (out) {
            tell(number, 3);
        } else if (kid.width != null) {
            n.width = number.number.intValue();
        }
        return n;
    }

    private void compareCodes() {
        for (int j = 0; j < ops.size(); j++) {
            for (int i = 0; i < j; i++) {
                if (!apart(ops.get(i).code, ops.get(j).code)) {
                    fault = 7;
                    place = j;
                    other = i;
                    return;
                }
            }
        }
    }

    private static boolean apart(String one, String two) {
        for (int i = 0; i < one.length(); i++) {
            String both = "" + one.charAt(i) + two.charAt(i);
            if (both.equals("01") || both.equals("10")) {
                return true;
            }
        }
        return false;
    }

    // ---- the machine

    BigInteger[][] values;
    private boolean assigned;
    private String bits;
    private String opCode;

    void reset() {
        values = new BigInteger[things.size()][];
        for (Thing t : things) {
            values[t.number] = new BigInteger[t.isFile ? t.cells : 1];
            Arrays.fill(values[t.number], BigInteger.ZERO);
        }
    }

    private String bitsOf(long word) {
        StringBuilder b = new StringBuilder();
        for (int i = length - 1; i >= 0; i--) {
            b.append(word >>> i & 1);
        }
        return b.toString();
    }

    int decode(long word) {
        String w = bitsOf(word);
        for (int k = 0; k < ops.size(); k++) {
            if (fits(ops.get(k).code, w)) {
                return k;
            }
        }
        return -1;
    }

    private static boolean fits(String code, String word) {
        for (int i = 0; i < code.length(); i++) {
            char c = code.charAt(i);
            if ((c == '0' || c == '1') && c != word.charAt(i)) {
                return false;
            }
        }
        return true;
    }

    private static BigInteger fieldOf(String code, char letter, String word) {
        StringBuilder b = new StringBuilder("0");
        for (int i = 0; i < code.length(); i++) {
            if (code.charAt(i) == letter) {
                b.append(word.charAt(i));
            }
        }
        return new BigInteger(b.toString(), 2);
    }

    long field(int op, char letter, long word) {
        return fieldOf(ops.get(op).code, letter, bitsOf(word)).longValue();
    }

    boolean hasField(int op, char letter) {
        return ops.get(op).code.indexOf(letter) >= 0;
    }

    long free() {
        BigInteger n = BigInteger.ONE.shiftLeft(length);
        for (Op op : ops) {
            n = n.subtract(BigInteger.ONE.shiftLeft(op.code.replaceAll("[01]", "").length()));
        }
        return n.longValue();
    }

    int step(long word) {
        int k = decode(word);
        if (k < 0) {
            return -2;
        }
        BigInteger[][] before = new BigInteger[values.length][];
        for (int i = 0; i < values.length; i++) {
            before[i] = values[i].clone();
        }
        assigned = false;
        bits = bitsOf(word);
        opCode = ops.get(k).code;
        try {
            doAll(ops.get(k).block);
        } catch (Trap t) {
            values = before;
            return t.number;
        }
        if (fetchRegister != null && !assigned) {
            BigInteger[] r = values[fetchRegister.number];
            r[0] = cutTo(r[0].add(BigInteger.valueOf(length / 8)), fetchRegister.width);
        }
        return 0;
    }

    /** The TRAP of a STEP that is run, or 0. */
    int runOne() {
        BigInteger from = values[fetchRegister.number][0];
        BigInteger behind = from.add(BigInteger.valueOf(length / 8));
        if (behind.compareTo(BigInteger.valueOf(fetchFile.cells)) > 0) {
            return -1;
        }
        BigInteger word = BigInteger.ZERO;
        for (int i = length / 8 - 1; i >= 0; i--) {
            word = word.shiftLeft(8).or(values[fetchFile.number][from.intValue() + i]);
        }
        return step(word.longValue());
    }

    private void doAll(List<Node> block) {
        for (Node n : block) {
            doOne(n);
        }
    }

    private void doOne(Node n) {
        switch (n.what) {
            case "block":
                doAll(n.kids);
                break;
            case "trap":
                throw new Trap(n.numbers.get(0).number.intValue());
            case "let":
                ((Let) n.meaning).value = value(n.kids.get(0));
                break;
            case "if":
                if (value(n.kids.get(0)).signum() != 0) {
                    doOne(n.kids.get(1));
                } else if (n.kids.size() > 2) {
                    doOne(n.kids.get(2));
                }
                break;
            case "register=":
                Thing r = (Thing) n.meaning;
                assigned |= r == fetchRegister;
                values[r.number][0] = value(n.kids.get(0));
                break;
            default:
                Thing f = (Thing) n.meaning;
                int index = indexIn(f, value(n.kids.get(0)));
                BigInteger v = value(n.kids.get(1));
                if (index > 0 || !f.zero) {
                    values[f.number][index] = v;
                }
        }
    }

    private static int indexIn(Thing file, BigInteger index) {
        if (index.compareTo(BigInteger.valueOf(file.cells)) >= 0) {
            throw new Trap(-3);
        }
        return index.intValue();
    }

    static BigInteger cutTo(BigInteger v, int width) {
        return v.mod(BigInteger.ONE.shiftLeft(width));
    }

    private static BigInteger signed(BigInteger v, int width) {
        return v.testBit(width - 1) ? v.subtract(BigInteger.ONE.shiftLeft(width)) : v;
    }

    private BigInteger value(Node n) {
        switch (n.what) {
            case "literal":
                return n.tok.number;
            case "name":
                if (n.meaning instanceof Thing) {
                    return values[((Thing) n.meaning).number][0];
                }
                return n.meaning instanceof Let ? ((Let) n.meaning).value
                        : fieldOf(opCode, (Character) n.meaning, bits);
            case "cell":
                Thing f = (Thing) n.meaning;
                return values[f.number][indexIn(f, value(n.kids.get(0)))];
            case "?":
                return value(n.kids.get(value(n.kids.get(0)).signum() != 0 ? 1 : 2));
            case "join":
                BigInteger all = BigInteger.ZERO;
                for (Node kid : n.kids) {
                    all = all.shiftLeft(kid.width).or(value(kid));
                }
                return all;
            case "part":
                return cutTo(value(n.kids.get(0)).shiftRight(n.numbers.get(1).number.intValue()), n.width);
            case "sx":
                return cutTo(signed(value(n.kids.get(0)), n.kids.get(0).width), n.width);
            case "zx":
                return value(n.kids.get(0));
            case "un-":
                return cutTo(value(n.kids.get(0)).negate(), n.width);
            case "un~":
            case "un!":
                return cutTo(value(n.kids.get(0)).not(), n.width);
            default:
                Node left = n.kids.get(0);
                return cutTo(ofTwo(n.what, value(left), value(n.kids.get(1)), left.width), n.width);
        }
    }

    private static BigInteger bit(boolean b) {
        return b ? BigInteger.ONE : BigInteger.ZERO;
    }

    private static BigInteger ofTwo(String what, BigInteger a, BigInteger b, int w) {
        BigInteger sa = signed(a, w);
        BigInteger wide = BigInteger.valueOf(w);
        BigInteger ones = BigInteger.ONE.negate();
        boolean nought = b.signum() == 0;
        switch (what) {
            case "|":
                return a.or(b);
            case "^":
                return a.xor(b);
            case "&":
                return a.and(b);
            case "==":
                return bit(a.equals(b));
            case "!=":
                return bit(!a.equals(b));
            case "<":
                return bit(a.compareTo(b) < 0);
            case "<=":
                return bit(a.compareTo(b) <= 0);
            case "slt":
                return bit(sa.compareTo(signed(b, w)) < 0);
            case "<<":
                return b.compareTo(wide) >= 0 ? BigInteger.ZERO : a.shiftLeft(b.intValue());
            case ">>":
                return b.compareTo(wide) >= 0 ? BigInteger.ZERO : a.shiftRight(b.intValue());
            case "sra":
                return sa.shiftRight(b.min(wide).intValue());
            case "+":
                return a.add(b);
            case "-":
                return a.subtract(b);
            case "*":
                return a.multiply(b);
            case "/":
                return nought ? ones : a.divide(b);
            case "%":
                return nought ? a : a.remainder(b);
            case "sdiv":
                return nought ? ones : sa.divide(signed(b, w));
            case "srem":
                return nought ? a : sa.remainder(signed(b, w));
            default:
                throw new AssertionError(what);
        }
    }
}
