import java.math.BigInteger;

/** Boundary cases of VALUES, for every WIDTH 1 .. 64: a test for each sentence. */
public final class ValueBoundsTest {
    private static final Check CHECK = new Check();
    private static final String[] DOINGS = {"p = a + b", "p = a - b", "p = a * b", "p = a / b", "p = a % b", "p = sdiv(a, b)",
        "p = srem(a, b)", "p = -a", "p = ~a", "p = a << s", "p = a >> s", "p = sra(a, s)", "t = a == b", "t = a != b",
        "t = a < b", "t = a <= b", "t = slt(a, b)", "p = a & b", "p = a | b", "p = a ^ b", "w = sx(a, 64)", "w = zx(a, 64)"};
    private static final MachineLoom[] LOOMS = new MachineLoom[65];

    public static void main(String[] args) {
        for (int width = 1; width <= 64; width++) {
            LOOMS[width] = machine(width);
        }
        wholeNumbers();
        asSigned();
        cutToWidth();
        lowBitsOfLong();
        fields();
        divisions();
        signedDivisions();
        shifts();
        compares();
        negations();
        joins();
        widened();
        workedOut();
        CHECK.finish();
    }

    private static MachineLoom machine(int width) {
        StringBuilder b = new StringBuilder("bits 8;");
        b.append("reg p:").append(width).append(";reg a:").append(width).append(";reg b:").append(width);
        b.append(";reg s:64;reg t:1;reg w:64;");
        for (int i = 0; i < DOINGS.length; i++) {
            String bits = Integer.toBinaryString(256 + i).substring(1);
            b.append("op o").append(i).append('"').append(bits).append("\"{").append(DOINGS[i]).append(";}");
        }
        return Check.of(b.toString());
    }

    /** What that doing makes of a and b (and s, which is b without a cut). */
    private static long of(int width, String doing, long a, long b) {
        MachineLoom loom = LOOMS[width];
        int op = 0;
        while (!DOINGS[op].equals(doing)) {
            op++;
        }
        loom.poke(1, 0, a);
        loom.poke(2, 0, b);
        loom.poke(3, 0, b);
        CHECK.due("step of " + doing, loom.step(op), 0);
        char target = doing.charAt(0);
        return loom.peek(target == 'p' ? 0 : target == 't' ? 4 : 5, 0);
    }

    private static void value(int width, String doing, long a, long b, long due) {
        CHECK.due(doing + " of " + a + ", " + b + " in " + width + " bits", of(width, doing, a, b), due);
    }

    /** 2^WIDTH - 1. */
    private static long most(int width) {
        return width == 64 ? -1 : (1L << width) - 1;
    }

    /** The highest bit alone: as signed the least one. */
    private static long top(int width) {
        return 1L << width - 1;
    }

    private static void wholeNumbers() {
        CHECK.sentence("VALUES have a WIDTH, 1 to 64 bits, and are whole numbers 0 .. 2^WIDTH - 1");
        for (int width = 1; width <= 64; width++) {
            MachineLoom loom = LOOMS[width];
            loom.poke(0, 0, 0);
            CHECK.due("0", loom.peek(0, 0), 0);
            loom.poke(0, 0, most(width));
            CHECK.due("2^WIDTH - 1", loom.peek(0, 0), most(width));
            if (width < 64) {
                loom.poke(0, 0, most(width) + 1);
                CHECK.due("2^WIDTH", loom.peek(0, 0), 0);
            }
        }
    }

    private static void asSigned() {
        CHECK.sentence("\"as signed\": the highest bit counts negative.");
        for (int width = 1; width <= 64; width++) {
            long least = top(width);
            long greatest = least - 1;
            value(width, "t = slt(a, b)", least, greatest, 1);
            value(width, "t = slt(a, b)", greatest, least, 0);
            value(width, "t = slt(a, b)", most(width), 0, 1);
            value(width, "t = slt(a, b)", 0, most(width), 0);
            value(width, "t = slt(a, b)", least, least, 0);
            if (width > 1) {
                value(width, "t = slt(a, b)", least, most(width), 1);
                value(width, "t = slt(a, b)", most(width), least, 0);
                value(width, "t = slt(a, b)", 0, 1, 1);
            }
        }
    }

    private static void cutToWidth() {
        CHECK.sentence("Results are cut to their WIDTH.");
        for (int width = 1; width <= 64; width++) {
            long most = most(width);
            value(width, "p = a + b", most, 1, 0);
            value(width, "p = a + b", most, most, most - 1);
            value(width, "p = a - b", 0, 1, most);
            value(width, "p = a - b", 0, most, 1);
            value(width, "p = a * b", most, most, 1);
            value(width, "p = a * b", top(width), 2, 0);
            value(width, "p = a << s", most, 1, most - 1);
            value(width, "p = a << s", most, width - 1, top(width));
            value(width, "p = -a", 1, 0, most);
            value(width, "p = ~a", 0, 0, most);
            value(width, "p = ~a", most, 0, 0);
        }
    }

    private static void lowBitsOfLong() {
        CHECK.sentence("Where a long is a VALUE, its low bits are; answers have 0 above.");
        for (int width = 1; width <= 64; width++) {
            MachineLoom loom = LOOMS[width];
            for (long v : new long[] {-1, Long.MIN_VALUE, Long.MAX_VALUE, 0x5555555555555555L, 0xaaaaaaaaaaaaaaaaL, 1L << 32, (1L << 32) - 1}) {
                loom.poke(0, 0, v);
                CHECK.due("peek", loom.peek(0, 0), v & most(width));
            }
        }
        for (int length : new int[] {8, 16, 32, 64}) {
            MachineLoom loom = Check.of("bits " + length + "; reg r: " + length + "; op o \"1" + "a".repeat(length - 1) + "\" { r = {1'0, a}; }");
            for (long word : new long[] {-1, Long.MIN_VALUE, 0x8888888888888888L, 0xffffffff80808080L, 0x7fffffff80808080L, 0x7f7f7f7f7f7f7f7fL, 1L << length - 1}) {
                boolean is = (word >> length - 1 & 1) == 1;
                long a = word & top(length) - 1;
                CHECK.due("decode " + word, loom.decode(word), is ? 0 : -1);
                CHECK.due("field of " + word, loom.field(0, 'a', word), a);
                CHECK.due("step " + word, loom.step(word), is ? 0 : -2);
                if (is) {
                    CHECK.due("r behind " + word, loom.peek(0, 0), a);
                }
            }
        }
    }

    private static void fields() {
        CHECK.sentence("FIELD: its bits from the left of CODE to the right, highest first.");
        for (int length : new int[] {8, 16, 32, 64}) {
            // A letter in every other place, in one place alone, and in the first and the last.
            String alternate = "ab".repeat(length / 2);
            MachineLoom loom = Check.of("bits " + length + "; reg r: " + length / 2 + "; reg q: " + length / 2
                    + "; op o \"" + alternate + "\" { r = a; q = b; }");
            for (long word : new long[] {0, -1, 0x123456789abcdef0L, 0x0f1e2d3c4b5a6978L, 0x5555555555555555L, 0xaaaaaaaaaaaaaaaaL, 1, top(length)}) {
                long a = 0;
                long b = 0;
                for (int bit = length - 1; bit >= 0; bit -= 2) {
                    a = a << 1 | word >>> bit & 1;
                    b = b << 1 | word >>> bit - 1 & 1;
                }
                CHECK.due("field a", loom.field(0, 'a', word), a);
                CHECK.due("field b", loom.field(0, 'b', word), b);
                loom.step(word);
                CHECK.due("a", loom.peek(0, 0), a);
                CHECK.due("b", loom.peek(1, 0), b);
            }
            for (int at = 0; at < length; at++) {
                MachineLoom one = Check.of("bits " + length + "; op o \"" + ".".repeat(at) + "z" + ".".repeat(length - 1 - at) + "\" {}");
                CHECK.due("1", one.field(0, 'z', 1L << length - 1 - at), 1);
                CHECK.due("0", one.field(0, 'z', ~(1L << length - 1 - at)), 0);
            }
            MachineLoom ends = Check.of("bits " + length + "; op o \"z" + ".".repeat(length - 2) + "z\" {}");
            CHECK.due("the first", ends.field(0, 'z', top(length)), 2);
            CHECK.due("the last", ends.field(0, 'z', 1), 1);
        }
    }

    private static void divisions() {
        CHECK.sentence("/ and % without sign, x / 0 is all ones, x % 0 is x.");
        for (int width = 1; width <= 64; width++) {
            long most = most(width);
            for (long x : new long[] {0, 1, top(width), top(width) - 1, most, most - 1}) {
                long v = x & most;
                value(width, "p = a / b", v, 0, most);
                value(width, "p = a % b", v, 0, v);
                value(width, "p = a / b", v, 1, v);
                value(width, "p = a % b", v, 1, 0);
                value(width, "p = a / b", v, most, v == most ? 1 : 0);
                value(width, "p = a % b", v, most, v == most ? 0 : v);
                for (long y : new long[] {2, 3, 10, top(width), top(width) - 1, most - 1}) {
                    long d = y & most;
                    if (d != 0) {
                        value(width, "p = a / b", v, d, big(v).divide(big(d)).longValue());
                        value(width, "p = a % b", v, d, big(v).mod(big(d)).longValue());
                    }
                }
            }
        }
    }

    private static BigInteger big(long v) {
        return new BigInteger(Long.toUnsignedString(v));
    }

    private static void signedDivisions() {
        CHECK.sentence("sdiv, srem as signed, cut off towards 0; by 0 all ones, and x; the least one by -1 itself, and 0.");
        for (int width = 1; width <= 64; width++) {
            long most = most(width);
            long least = top(width);
            for (long x : new long[] {0, 1, least, least - 1, most}) {
                long v = x & most;
                value(width, "p = sdiv(a, b)", v, 0, most);
                value(width, "p = srem(a, b)", v, 0, v);
            }
            value(width, "p = sdiv(a, b)", least, -1, least);
            value(width, "p = srem(a, b)", least, -1, 0);
            if (width >= 4) {
                value(width, "p = sdiv(a, b)", 7, 2, 3);
                value(width, "p = srem(a, b)", 7, 2, 1);
                value(width, "p = sdiv(a, b)", -7, 2, -3 & most);
                value(width, "p = srem(a, b)", -7, 2, -1 & most);
                value(width, "p = sdiv(a, b)", 7, -2, -3 & most);
                value(width, "p = srem(a, b)", 7, -2, 1);
                value(width, "p = sdiv(a, b)", -7, -2, 3);
                value(width, "p = srem(a, b)", -7, -2, -1 & most);
                value(width, "p = sdiv(a, b)", 1, 2, 0);
                value(width, "p = sdiv(a, b)", -1, 2, 0);
                value(width, "p = sdiv(a, b)", least, 1, least);
                value(width, "p = sdiv(a, b)", least, least, 1);
                value(width, "p = srem(a, b)", least, least, 0);
                value(width, "p = sdiv(a, b)", least - 1, least, 0);
                value(width, "p = srem(a, b)", least - 1, least, least - 1);
            }
        }
    }

    private static void shifts() {
        CHECK.sentence("<< >> by WIDTH or more: 0; sra: the highest bit in all places.");
        for (int width = 1; width <= 64; width++) {
            long most = most(width);
            long top = top(width);
            long[] far = {width, width + 1, 64, 65, 127, 128, 256, 1L << 31, 1L << 32, (1L << 32) + 1, Long.MAX_VALUE, Long.MIN_VALUE, -1};
            for (long by : far) {
                if (by >= 0 && by < width) {
                    continue;
                }
                value(width, "p = a << s", most, by, 0);
                value(width, "p = a >> s", most, by, 0);
                value(width, "p = sra(a, s)", top, by, most);
                value(width, "p = sra(a, s)", most, by, most);
                value(width, "p = sra(a, s)", top - 1, by, 0);
                value(width, "p = sra(a, s)", 0, by, 0);
            }
            // One less than WIDTH, and 0.
            value(width, "p = a << s", most, width - 1, top);
            value(width, "p = a >> s", most, width - 1, 1);
            value(width, "p = sra(a, s)", top, width - 1, most);
            value(width, "p = sra(a, s)", top - 1, width - 1, 0);
            value(width, "p = a << s", most, 0, most);
            value(width, "p = a >> s", most, 0, most);
            value(width, "p = sra(a, s)", top, 0, top);
        }
    }

    private static void compares() {
        CHECK.sentence("< <= without sign, slt as signed.");
        for (int width = 1; width <= 64; width++) {
            long most = most(width);
            value(width, "t = a < b", 0, most, 1);
            value(width, "t = a < b", most, 0, 0);
            value(width, "t = a < b", most, most, 0);
            value(width, "t = a < b", 0, 0, 0);
            value(width, "t = a < b", top(width) - 1, top(width), 1);
            value(width, "t = a < b", top(width), top(width) - 1, 0);
            value(width, "t = a <= b", 0, most, 1);
            value(width, "t = a <= b", most, 0, 0);
            value(width, "t = a <= b", most, most, 1);
            value(width, "t = a <= b", 0, 0, 1);
            value(width, "t = a <= b", top(width) - 1, top(width), 1);
            value(width, "t = a <= b", top(width), top(width) - 1, 0);
            value(width, "t = slt(a, b)", top(width) - 1, top(width), 0);
            value(width, "t = slt(a, b)", top(width), top(width) - 1, 1);
            value(width, "t = a == b", most, most, 1);
            value(width, "t = a == b", most, most ^ top(width), 0);
            value(width, "t = a != b", most, most, 0);
            value(width, "t = a != b", 0, top(width), 1);
        }
    }

    private static void negations() {
        CHECK.sentence("- is 0 less it.");
        for (int width = 1; width <= 64; width++) {
            value(width, "p = -a", 0, 0, 0);
            value(width, "p = -a", 1, 0, most(width));
            value(width, "p = -a", most(width), 0, 1);
            value(width, "p = -a", top(width), 0, top(width));
        }
    }

    private static void joins() {
        CHECK.sentence("{ }: the first one highest.");
        for (int high = 1; high <= 63; high++) {
            int low = 64 - high;
            MachineLoom loom = Check.of("bits 8; reg a: " + high + "; reg b: " + low + "; reg w: 64; op o \"........\" { w = {a, b}; }");
            for (long a : new long[] {0, -1, 1, top(high)}) {
                for (long b : new long[] {0, -1, 1, top(low)}) {
                    loom.poke(0, 0, a);
                    loom.poke(1, 0, b);
                    loom.step(0);
                    CHECK.due("{a, b}", loom.peek(2, 0), (a & most(high)) << low | b & most(low));
                }
            }
        }
        MachineLoom bits = Check.of("bits 8; reg r: 8; op o \"abcdefgh\" { r = {a, b, c, d, e, f, g, h}; } ");
        MachineLoom turned = Check.of("bits 8; reg r: 8; op o \"abcdefgh\" { r = {h, g, f, e, d, c, b, a}; } ");
        MachineLoom alone = Check.of("bits 64; reg r: 64; op o \"" + "a".repeat(64) + "\" { r = {a}; }");
        for (int word = 0; word < 256; word++) {
            bits.step(word);
            turned.step(word);
            CHECK.due("eight parts", bits.peek(0, 0), word);
            CHECK.due("turned", turned.peek(0, 0), Integer.reverse(word) >>> 24);
        }
        alone.step(Long.MIN_VALUE + 3);
        CHECK.due("one part", alone.peek(0, 0), Long.MIN_VALUE + 3);
    }

    private static void widened() {
        CHECK.sentence("sx, zx: with the highest bit, with 0 above.");
        for (int width = 1; width <= 64; width++) {
            long top = top(width);
            value(width, "w = sx(a, 64)", top, 0, -top);
            value(width, "w = sx(a, 64)", -1, 0, -1);
            value(width, "w = sx(a, 64)", top - 1, 0, top - 1);
            value(width, "w = sx(a, 64)", 0, 0, 0);
            value(width, "w = zx(a, 64)", top, 0, top);
            value(width, "w = zx(a, 64)", -1, 0, most(width));
            // To one bit more, and to just as many.
            int more = Math.min(64, width + 1);
            MachineLoom loom = Check.of("bits 8; reg a: " + width + "; reg b: " + more + "; reg c: " + width
                    + "; op s \"00000000\" { b = sx(a, " + more + "); c = sx(a, " + width + "); } op z \"00000001\" { b = zx(a, " + more
                    + "); c = zx(a, " + width + "); }");
            for (long a : new long[] {-1, top, top - 1, 0}) {
                long cut = a & most(width);
                long wide = cut << 64 - width >> 64 - width & most(more);
                loom.poke(0, 0, a);
                loom.step(0);
                CHECK.due("sx to one more", loom.peek(1, 0), wide);
                CHECK.due("sx to as many", loom.peek(2, 0), cut);
                loom.step(1);
                CHECK.due("zx to one more", loom.peek(1, 0), cut);
                CHECK.due("zx to as many", loom.peek(2, 0), cut);
            }
        }
    }

    private static void trap(String expr, int due) {
        MachineLoom loom = Check.of("bits 8; reg p: 8; file z: 8[4]; op o \"........\" { p = " + expr + "; }");
        CHECK.due("trap of " + expr, loom.step(0), due);
    }

    private static void workedOut() {
        CHECK.sentence("All in an EXPR is worked out, but of ? just the choice that's taken.");
        trap("z[8'3]", 0);
        trap("z[8'4]", -3);
        for (String sign : "+ - * / % & | ^ << >>".split(" ")) {
            trap("8'0 " + sign + " z[8'4]", -3);
            trap("z[8'4] " + sign + " 8'0", -3);
        }
        for (String sign : "== != < <=".split(" ")) {
            trap("zx(8'0 " + sign + " z[8'4], 8)", -3);
        }
        trap("sra(8'0, z[8'4])", -3);
        trap("sdiv(8'0, z[8'4])", -3);
        trap("srem(z[8'4], 8'0)", -3);
        trap("zx(slt(8'0, z[8'4]), 8)", -3);
        trap("{z[8'4], 8'0}[7:0]", -3);
        trap("z[z[8'4]]", -3);
        trap("sx(z[8'4], 8)", -3);
        trap("z[8'4][7:0]", -3);
        trap("-z[8'4]", -3);
        trap("1'1 ? 8'7 : z[8'4]", 0);
        trap("1'0 ? z[8'4] : 8'7", 0);
        trap("1'1 ? z[8'4] : 8'7", -3);
        trap("1'0 ? 8'7 : z[8'4]", -3);
        trap("z[8'4] == 8'0 ? 8'7 : 8'7", -3);
        trap("1'1 ? 1'0 ? z[8'4] : 8'7 : z[8'4]", 0);
        trap("1'0 ? z[8'4] : 1'0 ? z[8'4] : 8'7", 0);
        trap("1'0 ? z[8'4] : 1'1 ? z[8'4] : 8'7", -3);
        trap("(1'1 ? 8'7 : z[8'4]) + z[8'4]", -3);
    }
}
