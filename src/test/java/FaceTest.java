import java.util.NoSuchElementException;

/** Promises 7 to 10 and 14 to 16: decode, field, poke, peek, thing, free, count. */
public final class FaceTest {
    private static final Check CHECK = new Check();
    private static final String TEXT = "bits 16; reg p: 5; file f: 12[3] zero; reg q: 64; file m: 8[300]; "
            + "op a \"00..xxxxyyyy..11\" { f[8'0] = 12'5; } op b \"01xXxXxXxXxXxXxX\" {} op c \"1111000011110000\" { trap 77; }";

    public static void main(String[] args) {
        decodes();
        decodesMany();
        fields();
        pokesAndPeeks();
        things();
        frees();
        counts();
        CHECK.finish();
    }

    private static void decodes() {
        MachineLoom loom = Check.of(TEXT);
        CHECK.due("op 0", loom.decode(0b0010_1010_0101_0111), 0);
        CHECK.due("not quite", loom.decode(0b0010_1010_0101_0110), -1);
        CHECK.due("op 1", loom.decode(0x4000), 1);
        CHECK.due("op 1", loom.decode(0x7fff), 1);
        CHECK.due("op 2", loom.decode(0xf0f0), 2);
        CHECK.due("none", loom.decode(0xf0f1), -1);
        CHECK.due("just the low bits are the WORD", loom.decode(0x123456789abcf0f0L), 2);
        CHECK.due("negative", loom.decode((short) 0xf0f0), 2);
        CHECK.due("zero", loom.decode(0), -1);
        // Apart in pairs, with no place that parts all.
        MachineLoom ring = Check.of("bits 8; op a \"01......\" {} op b \".01.....\" {} op c \"1.0.....\" {}");
        for (int word = 0; word < 256; word++) {
            int high = word >> 5;
            int due = (high & 6) == 2 ? 0 : (high & 3) == 1 ? 1 : (high & 5) == 4 ? 2 : -1;
            CHECK.due("decode(" + word + ")", ring.decode(word), due);
        }
        CHECK.due("count(7)", ring.count(7), 0);
        MachineLoom all = Check.of("bits 64; op a \"" + ".".repeat(64) + "\" {}");
        CHECK.due("any WORD", all.decode(Long.MIN_VALUE), 0);
        CHECK.due("any WORD", all.decode(0), 0);
        MachineLoom one = Check.of("bits 64; op a \"1" + "0".repeat(62) + "1\" {}");
        CHECK.due("one WORD", one.decode(Long.MIN_VALUE + 1), 0);
        CHECK.due("another one", one.decode(1), -1);
        CHECK.due("another one", one.decode(Long.MIN_VALUE), -1);
    }

    /** 256 ops, each a byte; half of them with a sign that's free. */
    private static void decodesMany() {
        StringBuilder b = new StringBuilder("bits 8;");
        for (int i = 0; i < 192; i++) {
            String bits = Integer.toBinaryString(256 + (i * 5 & 255)).substring(1);
            b.append("op o").append(i).append(" \"").append(bits).append("\"{}");
        }
        MachineLoom loom = Check.of(b.toString());
        boolean[] used = new boolean[256];
        for (int i = 0; i < 192; i++) {
            CHECK.due("op " + i, loom.decode(i * 5), i);
            used[i * 5 & 255] = true;
        }
        for (int word = 0; word < 256; word++) {
            if (!used[word]) {
                CHECK.due("word " + word, loom.decode(word), -1);
            }
        }
        CHECK.due("free", loom.free(), 64);
        CHECK.due("count(7)", loom.count(7), 0);
    }

    private static void fields() {
        MachineLoom loom = Check.of(TEXT);
        CHECK.due("x", loom.field(0, 'x', 0b0010_1010_0101_0111), 0b1010);
        CHECK.due("y", loom.field(0, 'y', 0b0010_1010_0101_0111), 0b0101);
        CHECK.due("whatever op the WORD is", loom.field(0, 'y', -1), 15);
        CHECK.due("x of b", loom.field(1, 'x', 0b0110_1010_1010_1010), 0b1111111);
        CHECK.due("X of b", loom.field(1, 'X', 0b0110_1010_1010_1010), 0);
        CHECK.due("X of b", loom.field(1, 'X', 0b0001_0001_0001_0001), 0b1010101);
        CHECK.due("bits above LENGTH don't count", loom.field(0, 'x', 0xffff_0000L), 0);
        int[] letters = {'z', 'a', 'Y', '.', '0', '1', 0, -1, '"', '_', 'x' + 256, 'x' - 256, Integer.MIN_VALUE, Integer.MAX_VALUE};
        for (int c : letters) {
            CHECK.thrown("field(0, " + c + ")", NoSuchElementException.class, () -> loom.field(0, c, 0));
        }
        CHECK.thrown("no FIELDS", NoSuchElementException.class, () -> loom.field(2, 'x', 0));
        int[] ops = {-1, 3, 512, Integer.MIN_VALUE, Integer.MAX_VALUE};
        for (int op : ops) {
            CHECK.thrown("field(" + op + ")", NoSuchElementException.class, () -> loom.field(op, 'x', 0));
        }
        MachineLoom letterings = Check.of("bits 8; op a \"aAzZmMaZ\" {}");
        char[] all = {'a', 'A', 'z', 'Z', 'm', 'M'};
        int[] due = {0b11, 0, 1, 0b01, 0, 1};
        for (int i = 0; i < 6; i++) {
            CHECK.due("FIELD " + all[i], letterings.field(0, all[i], 0b10100111), due[i]);
        }
        MachineLoom whole = Check.of("bits 64; op a \"" + "a".repeat(64) + "\" {}");
        CHECK.due("64 bits", whole.field(0, 'a', Long.MIN_VALUE + 5), Long.MIN_VALUE + 5);
    }

    private static void pokesAndPeeks() {
        MachineLoom loom = Check.of(TEXT);
        loom.poke(0, 0, -1);
        CHECK.due("cut to its WIDTH", loom.peek(0, 0), 31);
        loom.poke(0, 0, 32);
        CHECK.due("cut to its WIDTH", loom.peek(0, 0), 0);
        loom.poke(2, 0, Long.MIN_VALUE);
        CHECK.due("64 bits", loom.peek(2, 0), Long.MIN_VALUE);
        loom.poke(1, 0, 7);
        CHECK.due("cell 0 is 0 always", loom.peek(1, 0), 0);
        loom.poke(1, 1, 0x1234);
        loom.poke(1, 2, 0xfff);
        CHECK.due("cell 1", loom.peek(1, 1), 0x234);
        CHECK.due("cell 2", loom.peek(1, 2), 0xfff);
        loom.poke(3, 0, 258);
        loom.poke(3, 299, 259);
        CHECK.due("cell 0", loom.peek(3, 0), 2);
        CHECK.due("cell 299", loom.peek(3, 299), 3);
        CHECK.due("cell 298", loom.peek(3, 298), 0);
        CHECK.due("others stay", loom.peek(2, 0), Long.MIN_VALUE);
        int[][] outside = {{0, 1}, {0, -1}, {2, 1}, {1, 3}, {1, -1}, {3, 300}, {4, 0}, {-1, 0}, {64, 0},
            {Integer.MIN_VALUE, 0}, {Integer.MAX_VALUE, 0}, {1, Integer.MAX_VALUE}, {1, Integer.MIN_VALUE}};
        for (int[] o : outside) {
            String where = "(" + o[0] + ", " + o[1] + ")";
            CHECK.thrown("peek" + where, NoSuchElementException.class, () -> loom.peek(o[0], o[1]));
            CHECK.thrown("poke" + where, NoSuchElementException.class, () -> {
                loom.poke(o[0], o[1], 1);
                return null;
            });
        }
        CHECK.due("nothing is changed", loom.peek(2, 0), Long.MIN_VALUE);
    }

    private static void things() {
        MachineLoom loom = Check.of(TEXT);
        int[] widths = {5, 12, 64, 8};
        int[] cells = {0, 3, 0, 300};
        for (int t = 0; t < 4; t++) {
            CHECK.due("WIDTH of " + t, loom.thing(t, 0), widths[t]);
            CHECK.due("cells of " + t, loom.thing(t, 1), cells[t]);
        }
        CHECK.thrown("thing(4, 0)", NoSuchElementException.class, () -> loom.thing(4, 0));
        CHECK.thrown("thing(-1, 1)", NoSuchElementException.class, () -> loom.thing(-1, 1));
        CHECK.thrown("thing(0, 2)", IllegalArgumentException.class, () -> loom.thing(0, 2));
        CHECK.thrown("thing(0, -1)", IllegalArgumentException.class, () -> loom.thing(0, -1));
        CHECK.thrown("what is looked at before", IllegalArgumentException.class, () -> loom.thing(4, 2));
        CHECK.thrown("what is looked at before", IllegalArgumentException.class, () -> loom.thing(-1, -1));
    }

    private static void frees() {
        CHECK.due("of 16 bits", Check.of(TEXT).free(), 65536 - 4096 - 16384 - 1);
        CHECK.due("no op", Check.of("bits 32;").free(), 1L << 32);
        CHECK.due("2^64 as 0", Check.of("bits 64;").free(), 0);
        CHECK.due("one WORD", Check.of("bits 64; op a \"" + "0".repeat(64) + "\" {}").free(), -1);
        CHECK.due("half", Check.of("bits 64; op a \"0" + ".".repeat(63) + "\" {}").free(), Long.MIN_VALUE);
        CHECK.due("none", Check.of("bits 64; op a \"" + "z".repeat(64) + "\" {}").free(), 0);
        CHECK.due("none", Check.of("bits 8; op a \"0.......\" {} op b \"1abcdefg\" {}").free(), 0);
    }

    private static void counts() {
        MachineLoom loom = Check.of(TEXT);
        loom.feed(0, 0, 0, 0, 0);
        CHECK.due("INPUT", loom.count(0), 20);
        CHECK.due("LENGTH", loom.count(1), 16);
        CHECK.due("THINGS", loom.count(2), 4);
        CHECK.due("cells", loom.count(3), 303);
        CHECK.due("ops", loom.count(4), 3);
        CHECK.due("STEPS", loom.count(5), 0);
        CHECK.due("TRAPS", loom.count(6), 0);
        loom.step(3);
        CHECK.due("an assignment to cell 0 is lost", loom.peek(1, 0), 0);
        loom.step(0x4000);
        loom.step(0xf0f0);
        loom.step(0xffff);
        loom.step(0x4001);
        CHECK.due("STEPS", loom.count(5), 3);
        CHECK.due("TRAPS", loom.count(6), 2);
        CHECK.due("ops beyond", loom.count(7), 0);
        int[] others = {-1, 8, 100, Integer.MIN_VALUE, Integer.MAX_VALUE};
        for (int what : others) {
            CHECK.due("count(" + what + ")", loom.count(what), -1);
        }
        loom.ship();
        CHECK.due("STEPS", loom.count(5), 0);
        CHECK.due("TRAPS", loom.count(6), 0);
        CHECK.due("INPUT stays", loom.count(0), 20);
    }
}
