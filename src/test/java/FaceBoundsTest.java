import java.util.NoSuchElementException;

/** Boundary cases of promises 7 to 10 and 14 to 16: a test for each sentence. */
public final class FaceBoundsTest {
    private static final Check CHECK = new Check();
    private static final int[] FAR = {Integer.MIN_VALUE, Integer.MIN_VALUE + 1, -65536, -256, -1, 65536, 65537, 1 << 30, Integer.MAX_VALUE};

    public static void main(String[] args) {
        decodes();
        fields();
        noFields();
        pokes();
        pokesCut();
        notThere();
        things();
        thingBad();
        frees();
        wholeFree();
        counts();
        countsOfSteps();
        neverBeyond();
        elseMinusOne();
        CHECK.finish();
    }

    private static void noElement(String what, java.util.concurrent.Callable<?> call) {
        CHECK.thrown(what, NoSuchElementException.class, call);
    }

    private static void decodes() {
        CHECK.sentence("The number of the op that the WORD is, -1 if it's none.");
        MachineLoom loom = Check.of("bits 8; op a \"00000000\" {} op b \"11111111\" {} op c \"0111111.\" {} op d \"10......\" {}");
        for (int word = 0; word < 256; word++) {
            int due = word == 0 ? 0 : word == 255 ? 1 : word == 126 || word == 127 ? 2 : word >= 128 && word < 192 ? 3 : -1;
            CHECK.due("decode(" + word + ")", loom.decode(word), due);
            CHECK.due("decode with bits above", loom.decode(word - 256L), due);
            CHECK.due("decode with bits above", loom.decode(word | 0x7fffffffffffff00L), due);
        }
        CHECK.due("it's no STEP", loom.count(5) + loom.count(6), 0);
        CHECK.due("nor a TRAP", loom.trap(), 0);
        MachineLoom all = Check.of("bits 8; op a \"........\" {}");
        MachineLoom none = Check.of("bits 64;");
        for (long word : new long[] {0, 255, -1, Long.MIN_VALUE, Long.MAX_VALUE}) {
            CHECK.due("each WORD is one", all.decode(word), 0);
            CHECK.due("no WORD is one", none.decode(word), -1);
        }
    }

    private static void fields() {
        CHECK.sentence("The VALUE of the FIELD with the letter c (a CHARACTER) of op number op in the WORD (whatever op it is).");
        MachineLoom loom = Check.of("bits 8; op a \"0000aaaa\" {} op b \"0001AAzz\" {} op c \"1ZZZZZZZ\" {}");
        for (int word = 0; word < 256; word++) {
            CHECK.due("a", loom.field(0, 'a', word), word & 15);
            CHECK.due("A", loom.field(1, 'A', word), word >> 2 & 3);
            CHECK.due("z", loom.field(1, 'z', word), word & 3);
            CHECK.due("Z", loom.field(2, 'Z', word), word & 127);
            CHECK.due("Z with bits above", loom.field(2, 'Z', word | ~255L), word & 127);
        }
        CHECK.due("it's no decoding of a STEP", loom.count(5) + loom.count(6), 0);
        MachineLoom whole = Check.of("bits 64; op a \"" + "q".repeat(64) + "\" {}");
        for (long word : new long[] {0, 1, -1, Long.MIN_VALUE, Long.MAX_VALUE}) {
            CHECK.due("64 bits", whole.field(0, 'q', word), word);
        }
    }

    private static void noFields() {
        CHECK.sentence("No such op or letter: java.util.NoSuchElementException.");
        MachineLoom loom = Check.of("bits 8; op a \"01.aaZZ.\" {} op b \"1.......\" {}");
        for (int c = -300; c <= 1000; c++) {
            int letter = c;
            if (c != 'a' && c != 'Z') {
                noElement("field(0, " + c + ")", () -> loom.field(0, letter, 0));
            }
            noElement("field(1, " + c + ")", () -> loom.field(1, letter, 0));
        }
        for (int far : FAR) {
            noElement("field(0, " + far + ")", () -> loom.field(0, far, 0));
            noElement("field(" + far + ")", () -> loom.field(far, 'a', 0));
            noElement("field(0, a + " + far + ")", () -> loom.field(0, 'a' + (far & ~255 | 256), 0));
        }
        for (int op : new int[] {-1, 2, 3, 511, 512, 513}) {
            noElement("field(" + op + ")", () -> loom.field(op, 'a', 0));
        }
        noElement("a new object", () -> new MachineLoom().field(0, 'a', 0));
        CHECK.due("field", loom.field(0, 'a', 0x18), 3);
    }

    private static MachineLoom mixed() {
        return Check.of("bits 8; reg p: 5; file f: 12[3]; reg w: 64; file z: 8[2] zero; file o: 1[1];");
    }

    private static void pokes() {
        CHECK.sentence("THING t has the VALUE v (in cell i of a FILE; i is 0 for a register, another one is not there).");
        MachineLoom loom = mixed();
        int[][] there = {{0, 0}, {1, 0}, {1, 1}, {1, 2}, {2, 0}, {3, 1}, {4, 0}};
        for (int k = 0; k < there.length; k++) {
            loom.poke(there[k][0], there[k][1], 1);
            for (int j = 0; j < there.length; j++) {
                CHECK.due("just that one is changed", loom.peek(there[j][0], there[j][1]), j == k ? 1 : 0);
            }
            loom.poke(there[k][0], there[k][1], 0);
        }
        for (int t : new int[] {0, 2}) {
            for (int i : new int[] {1, 2, -1, 64, Integer.MIN_VALUE, Integer.MAX_VALUE}) {
                noElement("peek(" + t + ", " + i + ")", () -> loom.peek(t, i));
                noElement("poke(" + t + ", " + i + ")", () -> {
                    loom.poke(t, i, 1);
                    return null;
                });
            }
        }
    }

    private static void pokesCut() {
        CHECK.sentence("What THING t has (in cell i).");
        MachineLoom loom = mixed();
        long[] values = {0, 1, 31, 32, 33, 4095, 4096, -1, Long.MIN_VALUE, Long.MAX_VALUE};
        for (long v : values) {
            loom.poke(0, 0, v);
            CHECK.due("5 bits", loom.peek(0, 0), v & 31);
            loom.poke(1, 2, v);
            CHECK.due("12 bits", loom.peek(1, 2), v & 4095);
            loom.poke(2, 0, v);
            CHECK.due("64 bits", loom.peek(2, 0), v);
            loom.poke(3, 0, v);
            CHECK.due("cell 0 of zero", loom.peek(3, 0), 0);
            loom.poke(3, 1, v);
            CHECK.due("cell 1 of zero", loom.peek(3, 1), v & 255);
            loom.poke(4, 0, v);
            CHECK.due("1 bit", loom.peek(4, 0), v & 1);
        }
    }

    private static void notThere() {
        CHECK.sentence("Not there: java.util.NoSuchElementException.");
        MachineLoom loom = mixed();
        loom.poke(1, 0, 1);
        loom.poke(1, 2, 2);
        loom.poke(4, 0, 1);
        int[][] outside = {{-1, 0}, {5, 0}, {6, 0}, {63, 0}, {64, 0}, {65, 0}, {1, -1}, {1, 3}, {1, 4}, {3, -1}, {3, 2}, {4, 1}, {4, -1}, {5, -1}, {-1, -1}};
        for (int[] o : outside) {
            refused(loom, o[0], o[1]);
        }
        for (int far : FAR) {
            refused(loom, far, 0);
            refused(loom, 1, far);
            refused(loom, 3, far);
            refused(loom, far, far);
        }
        CHECK.due("a refused call changes nothing", loom.peek(1, 0), 1);
        CHECK.due("a refused call changes nothing", loom.peek(1, 1), 0);
        CHECK.due("a refused call changes nothing", loom.peek(1, 2), 2);
        CHECK.due("a refused call changes nothing", loom.peek(2, 0), 0);
        CHECK.due("a refused call changes nothing", loom.peek(4, 0), 1);
        refused(new MachineLoom(), 0, 0);
        // A THING of a machine that was before is not there any more.
        Check.build(loom, "bits 8; reg p: 5;");
        refused(loom, 1, 0);
        CHECK.due("what is there", loom.peek(0, 0), 0);
    }

    private static void refused(MachineLoom loom, int t, int i) {
        noElement("peek(" + t + ", " + i + ")", () -> loom.peek(t, i));
        noElement("poke(" + t + ", " + i + ")", () -> {
            loom.poke(t, i, -1);
            return null;
        });
    }

    private static void things() {
        CHECK.sentence("Of THING t: its WIDTH (what 0), its cells, 0 for a register (1).");
        MachineLoom loom = Check.of("bits 8; reg a: 1; reg b: 64; file c: 1[1]; file d: 64[65535] zero;");
        int[] widths = {1, 64, 1, 64};
        int[] cells = {0, 0, 1, 65535};
        for (int t = 0; t < 4; t++) {
            CHECK.due("WIDTH", loom.thing(t, 0), widths[t]);
            CHECK.due("cells", loom.thing(t, 1), cells[t]);
        }
    }

    private static void thingBad() {
        CHECK.sentence("Not there: java.util.NoSuchElementException; another what: bad, before.");
        MachineLoom loom = mixed();
        for (int t : new int[] {-1, 5, 6, 63, 64, 65, Integer.MIN_VALUE, Integer.MAX_VALUE}) {
            noElement("thing(" + t + ", 0)", () -> loom.thing(t, 0));
            noElement("thing(" + t + ", 1)", () -> loom.thing(t, 1));
            for (int what : new int[] {-1, 2, 3, Integer.MIN_VALUE, Integer.MAX_VALUE}) {
                CHECK.thrown("thing(" + t + ", " + what + ")", IllegalArgumentException.class, () -> loom.thing(t, what));
            }
        }
        for (int what : new int[] {-1, 2, 3, 256, Integer.MIN_VALUE, Integer.MAX_VALUE}) {
            CHECK.thrown("thing(0, " + what + ")", IllegalArgumentException.class, () -> loom.thing(0, what));
            CHECK.thrown("thing(4, " + what + ")", IllegalArgumentException.class, () -> loom.thing(4, what));
        }
        noElement("a new object", () -> new MachineLoom().thing(0, 0));
        CHECK.thrown("a new object", IllegalArgumentException.class, () -> new MachineLoom().thing(0, 2));
    }

    private static void frees() {
        CHECK.sentence("How many WORDS are no op's, as a long");
        int[] lengths = {8, 16, 32};
        for (int length : lengths) {
            long all = 1L << length;
            CHECK.due("no op", Check.of("bits " + length + ";").free(), all);
            for (int fixed = 0; fixed <= length; fixed++) {
                String code = "1".repeat(fixed) + ".".repeat(length - fixed);
                CHECK.due("one op", Check.of("bits " + length + "; op a \"" + code + "\" {}").free(), all - (1L << length - fixed));
            }
            String rest = "a".repeat(length - 1);
            CHECK.due("none is left", Check.of("bits " + length + "; op a \"0" + rest + "\" {} op b \"1" + rest + "\" {}").free(), 0);
        }
        // It's the same as how many are decoded to none.
        MachineLoom loom = Check.of("bits 8; op a \"0.0.0.0.\" {} op b \"1111....\" {} op c \"0.1.0..0\" {} op d \"10000001\" {}");
        int none = 0;
        for (int word = 0; word < 256; word++) {
            none += loom.decode(word) < 0 ? 1 : 0;
        }
        CHECK.due("counted", loom.free(), none);
    }

    private static void wholeFree() {
        CHECK.sentence("(2^64 as 0)");
        CHECK.due("no op", Check.of("bits 64;").free(), 0);
        for (int fixed = 1; fixed <= 64; fixed++) {
            String code = "1".repeat(fixed) + ".".repeat(64 - fixed);
            CHECK.due(fixed + " signs", Check.of("bits 64; op a \"" + code + "\" {}").free(), -(1L << 64 - fixed));
        }
        CHECK.due("one op with all", Check.of("bits 64; op a \"" + ".".repeat(64) + "\" {}").free(), 0);
        String rest = ".".repeat(63);
        CHECK.due("two halves", Check.of("bits 64; op a \"0" + rest + "\" {} op b \"1" + rest + "\" {}").free(), 0);
    }

    private static void counts() {
        CHECK.sentence("INPUT's length (0), LENGTH (1), THINGS (2), cells of all FILES (3), ops (4)");
        MachineLoom loom = mixed();
        int[] due = {0, 8, 5, 6, 0};
        for (int what = 0; what < 5; what++) {
            CHECK.due("count(" + what + ")", loom.count(what), due[what]);
        }
        loom.feed(1, 2, 3, 4, 5);
        CHECK.due("count(0)", loom.count(0), 20);
        loom.end(19);
        CHECK.due("count(0)", loom.count(0), 1);
        loom.end(1);
        Check.build(loom, "bits 64; file f: 8[65536]; op a \"" + ".".repeat(64) + "\" {}");
        int[] next = {0, 64, 1, 65536, 1};
        for (int what = 0; what < 5; what++) {
            CHECK.due("count(" + what + ")", loom.count(what), next[what]);
        }
    }

    private static void countsOfSteps() {
        CHECK.sentence("STEPS done without a TRAP by step and run since THE MACHINE was made (5), TRAPS in them (6).");
        String text = "bits 8; reg pc: 8; file m: 8[4]; fetch pc from m; op o \"00000000\" {} op t \"00000001\" { trap 9; }";
        MachineLoom loom = Check.of(text);
        CHECK.due("STEPS", loom.count(5), 0);
        CHECK.due("TRAPS", loom.count(6), 0);
        loom.step(0);
        loom.step(0);
        loom.step(1);
        loom.step(2);
        CHECK.due("STEPS", loom.count(5), 2);
        CHECK.due("TRAPS", loom.count(6), 2);
        CHECK.due("run up to the end", loom.run(500), 2);
        CHECK.due("STEPS", loom.count(5), 4);
        CHECK.due("TRAPS with that of the run", loom.count(6), 3);
        loom.decode(0);
        loom.peek(0, 0);
        CHECK.thrown("build", IllegalStateException.class, loom::build);
        CHECK.thrown("run", IllegalArgumentException.class, () -> loom.run(0));
        CHECK.due("STEPS", loom.count(5), 4);
        CHECK.due("TRAPS", loom.count(6), 3);
        Check.build(loom, text);
        CHECK.due("STEPS behind build", loom.count(5), 0);
        CHECK.due("TRAPS behind build", loom.count(6), 0);
        loom.step(0);
        loom.step(1);
        loom.ship();
        CHECK.due("STEPS behind ship", loom.count(5), 0);
        CHECK.due("TRAPS behind ship", loom.count(6), 0);
        // 100 runs of 500 STEPS.
        MachineLoom many = Check.of("bits 8; reg pc: 8; file m: 8[1]; fetch pc from m; op o \"........\" { pc = pc; }");
        for (int i = 1; i <= 100; i++) {
            many.run(500);
            CHECK.due("STEPS", many.count(5), 500 * i);
        }
    }

    private static void neverBeyond() {
        CHECK.sentence("What there must never be: ops beyond one that a WORD is, in all WORDS decoded so far (7).");
        MachineLoom loom = Check.of("bits 8; op a \"01......\" {} op b \".01.....\" {} op c \"1.0.....\" {} op d \"000....1\" {} op e \"111....0\" {}");
        for (int word = 0; word < 256; word++) {
            loom.decode(word);
            loom.step(word);
            CHECK.due("count(7)", loom.count(7), 0);
        }
        CHECK.thrown("ops that are not apart", IllegalStateException.class,
                () -> Check.build(loom, "bits 8; op a \"........\" {} op b \"........\" {}"));
        loom.decode(0);
        CHECK.due("count(7)", loom.count(7), 0);
        loom.ship();
        for (int i = 0; i < 2000; i++) {
            loom.decode(i * 0x9e3779b97f4a7c15L >> 20);
        }
        CHECK.due("count(7)", loom.count(7), 0);
    }

    private static void elseMinusOne() {
        CHECK.sentence("Else -1.");
        MachineLoom loom = mixed();
        for (int what = 8; what < 300; what++) {
            CHECK.due("count(" + what + ")", loom.count(what), -1);
            CHECK.due("count(" + -what + ")", loom.count(-what), -1);
        }
        for (int what = -8; what < 0; what++) {
            CHECK.due("count(" + what + ")", loom.count(what), -1);
        }
        for (int far : FAR) {
            CHECK.due("count(" + far + ")", loom.count(far), -1);
        }
    }
}
