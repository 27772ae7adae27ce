/** Promise 11: VALUES of EXPRS, one by one, as the document tells them. */
public final class ValuesTest {
    private static final Check CHECK = new Check();

    public static void main(String[] args) {
        arithmetic();
        compares();
        shifts();
        signs();
        partsAndJoins();
        fields();
        choices();
        bindings();
        CHECK.finish();
    }

    /** What p (of that WIDTH) is behind p = EXPR, with a and b poked. */
    private static void value(int width, String expr, long a, long b, long due) {
        MachineLoom loom = Check.of("bits 8; reg p: " + width + "; reg a: " + width + "; reg b: " + width
                + "; reg n: 8; reg w: 64; file z: 8[4] zero; op o \"........\" { p = " + expr + "; }");
        loom.poke(1, 0, a);
        loom.poke(2, 0, b);
        loom.poke(3, 0, 0xa5);
        loom.poke(4, 0, -2);
        CHECK.due("step of " + expr, loom.step(0), 0);
        CHECK.due(expr + " of " + a + ", " + b + " in " + width + " bits", loom.peek(0, 0), due);
    }

    private static void arithmetic() {
        value(8, "a + b", 200, 100, 44);
        value(64, "a + b", -1, 2, 1);
        value(8, "a - b", 1, 2, 255);
        value(8, "a * b", 20, 20, 144);
        value(64, "a * b", -1, -1, 1);
        value(8, "a / b", 200, 7, 28);
        value(8, "a % b", 200, 7, 4);
        value(8, "a / b", 200, 0, 255);
        value(8, "a % b", 200, 0, 200);
        value(64, "a / b", -1, 10, 1844674407370955161L);
        value(64, "a % b", -1, 10, 5);
        value(64, "a / b", -1, -2, 1);
        value(64, "a / b", -3, -2, 0);
        value(64, "a % b", -3, -2, -3);
        value(64, "a / b", Long.MIN_VALUE, 1, Long.MIN_VALUE);
        value(64, "a / b", -1, Long.MAX_VALUE, 2);
        value(64, "a % b", -1, Long.MAX_VALUE, 1);
        value(64, "a / b", 5, 0, -1);
        value(64, "a % b", -5, 0, -5);
        value(1, "a / b", 1, 0, 1);
        value(8, "a & b", 0xcc, 0xaa, 0x88);
        value(8, "a | b", 0xcc, 0xaa, 0xee);
        value(8, "a ^ b", 0xcc, 0xaa, 0x66);
    }

    private static void compares() {
        value(1, "n == 8'165", 0, 0, 1);
        value(1, "n != 8'165", 0, 0, 0);
        value(1, "n == 8'164", 0, 0, 0);
        value(1, "n < 8'166", 0, 0, 1);
        value(1, "n < 8'165", 0, 0, 0);
        value(1, "n <= 8'165", 0, 0, 1);
        value(1, "n <= 8'1", 0, 0, 0);
        value(1, "w < 64'1", 0, 0, 0);
        value(1, "w <= 64'1", 0, 0, 0);
        value(1, "64'1 < w", 0, 0, 1);
        value(1, "slt(w, 64'1)", 0, 0, 1);
        value(1, "slt(n, 8'1)", 0, 0, 1);
        value(1, "slt(8'1, n)", 0, 0, 0);
        value(1, "slt(n, n)", 0, 0, 0);
        value(1, "slt(a, b)", 1, 0, 1);
        value(1, "slt(a, b)", 0, 1, 0);
    }

    private static void shifts() {
        value(8, "a << b", 0x81, 1, 2);
        value(8, "a << b", 0x81, 7, 128);
        value(8, "a << b", 0x81, 8, 0);
        value(8, "a << b", 0x81, 255, 0);
        value(8, "a << w", 0x81, 0, 0);
        value(8, "a >> b", 0x81, 1, 0x40);
        value(8, "a >> b", 0x81, 0, 0x81);
        value(8, "a >> b", 0x81, 8, 0);
        value(8, "a >> w", 0x81, 0, 0);
        value(64, "a << b", -1, 63, Long.MIN_VALUE);
        value(64, "a << b", -1, 64, 0);
        value(64, "a >> b", -1, 63, 1);
        value(64, "a >> b", -1, 64, 0);
        value(64, "a >> b", -1, Long.MIN_VALUE, 0);
        value(8, "sra(a, b)", 0x81, 1, 0xc0);
        value(8, "sra(a, b)", 0x41, 1, 0x20);
        value(8, "sra(a, b)", 0x81, 8, 255);
        value(8, "sra(a, b)", 0x41, 8, 0);
        value(8, "sra(a, w)", 0x81, 0, 255);
        value(64, "sra(a, b)", Long.MIN_VALUE, 63, -1);
        value(64, "sra(a, b)", Long.MIN_VALUE, 64, -1);
        value(64, "sra(a, b)", Long.MAX_VALUE, -1, 0);
        value(1, "sra(a, n)", 1, 0, 1);
        value(1, "a << b", 1, 1, 0);
    }

    private static void signs() {
        value(8, "-a", 1, 0, 255);
        value(8, "-a", 0, 0, 0);
        value(8, "-a", 128, 0, 128);
        value(64, "-a", 1, 0, -1);
        value(8, "~a", 0x0f, 0, 0xf0);
        value(64, "~a", 0, 0, -1);
        value(1, "!a", 0, 0, 1);
        value(1, "!a", 1, 0, 0);
        value(1, "!!a", 1, 0, 1);
        value(8, "~-a", 5, 0, 4);
        value(8, "sdiv(a, b)", -7, 2, 253);
        value(8, "srem(a, b)", -7, 2, 255);
        value(8, "sdiv(a, b)", 7, -2, 253);
        value(8, "srem(a, b)", 7, -2, 1);
        value(8, "sdiv(a, b)", -7, -2, 3);
        value(8, "srem(a, b)", -7, -2, 255);
        value(8, "sdiv(a, b)", 7, 0, 255);
        value(8, "srem(a, b)", -7, 0, 249);
        value(8, "sdiv(a, b)", -128, -1, 128);
        value(8, "srem(a, b)", -128, -1, 0);
        value(64, "sdiv(a, b)", Long.MIN_VALUE, -1, Long.MIN_VALUE);
        value(64, "srem(a, b)", Long.MIN_VALUE, -1, 0);
        value(64, "sdiv(a, b)", -7, 0, -1);
        value(64, "srem(a, b)", -7, 0, -7);
        value(1, "sdiv(a, b)", 1, 1, 1);
        value(1, "srem(a, b)", 1, 1, 0);
    }

    private static void partsAndJoins() {
        value(4, "n[7:4]", 0, 0, 10);
        value(4, "n[3:0]", 0, 0, 5);
        value(1, "n[7]", 0, 0, 1);
        value(1, "n[6]", 0, 0, 0);
        value(1, "n[0]", 0, 0, 1);
        value(2, "n[7:2][5:4]", 0, 0, 2);
        value(64, "w[63:0]", 0, 0, -2);
        value(1, "w[63]", 0, 0, 1);
        value(63, "w[62:0]", 0, 0, Long.MAX_VALUE - 1);
        value(12, "{n, n[7:4]}", 0, 0, 0xa5a);
        value(10, "{1'1, n, 1'0}", 0, 0, 0x34a);
        value(64, "{n, w[55:0]}", 0, 0, 0xa5fffffffffffffeL);
        value(64, "{1'1, w[62:0]}", 0, 0, -2);
        value(8, "{n}", 0, 0, 0xa5);
        value(16, "sx(n, 16)", 0, 0, 0xffa5);
        value(16, "zx(n, 16)", 0, 0, 0xa5);
        value(64, "sx(n, 64)", 0, 0, -91);
        value(64, "zx(n, 64)", 0, 0, 0xa5);
        value(64, "sx(n[6:0], 64)", 0, 0, 0x25);
        value(8, "sx(n, 8)", 0, 0, 0xa5);
        value(64, "sx(1'1, 64)", 0, 0, -1);
        value(64, "64'0xffffffffffffffff", 0, 0, -1);
        value(64, "64'18446744073709551615", 0, 0, -1);
    }

    /** A letter that stands in several places: its bits from the left, the highest first. */
    private static void fields() {
        MachineLoom loom = Check.of("bits 16; reg p: 8; reg q: 4; op o \"1aab.abb.aa0AAAA\" { p = {a, b}; q = A; }");
        long word = 0b1_10_1_0_0_11_1_01_0_1010;
        CHECK.due("step", loom.step(word), 0);
        CHECK.due("a and b", loom.peek(0, 0), 0b10001_111);
        CHECK.due("A", loom.peek(1, 0), 0b1010);
        // A FIELD hides the register p.
        MachineLoom hidden = Check.of("bits 8; reg p: 8; reg r: 4; op o \"0000pppp\" { r = p; }");
        hidden.poke(0, 0, 255);
        hidden.step(6);
        CHECK.due("the FIELD p", hidden.peek(1, 0), 6);
    }

    private static void choices() {
        value(8, "n == 8'165 ? 8'1 : 8'2", 0, 0, 1);
        value(8, "n != 8'165 ? 8'1 : 8'2", 0, 0, 2);
        value(8, "1'0 ? 8'1 : 1'0 ? 8'2 : 8'3", 0, 0, 3);
        value(8, "1'0 ? 8'1 : 1'1 ? 8'2 : 8'3", 0, 0, 2);
        value(8, "1'1 ? 1'0 ? 8'1 : 8'2 : 8'3", 0, 0, 2);
        value(8, "(1'1 ? 8'1 : 8'2) + (1'0 ? 8'3 : 8'4)", 0, 0, 5);
        // Just the choice that's taken is worked out.
        value(8, "1'1 ? 8'7 : z[8'200]", 0, 0, 7);
        value(8, "1'0 ? z[8'200] : 8'7", 0, 0, 7);
        trap("1'1 ? z[8'200] : 8'7", -3);
        trap("1'0 ? 8'7 : z[8'200]", -3);
        // All else is.
        trap("8'0 & z[8'200]", -3);
        trap("8'0 * z[z[8'4]]", -3);
        trap("z[8'4] == 8'0 ? 8'1 : 8'1", -3);
        trap("{8'1, z[64'0xffffffffffffffff]}[15:8]", -3);
        trap("z[8'3]", 0);
        trap("z[1'1 + 1'1]", 0);
    }

    private static void trap(String expr, int due) {
        MachineLoom loom = Check.of("bits 8; reg p: 8; file z: 8[4]; op o \"........\" { p = " + expr + "; }");
        CHECK.due("trap of " + expr, loom.step(0), due);
    }

    private static void bindings() {
        value(8, "8'100 - 8'10 - 8'5", 0, 0, 85);
        value(8, "8'100 / 8'10 / 8'5", 0, 0, 2);
        value(8, "8'100 / 8'10 * 8'5", 0, 0, 50);
        value(8, "8'100 % 8'30 * 8'2", 0, 0, 20);
        value(8, "8'1 + 8'2 * 8'3", 0, 0, 7);
        value(8, "8'1 << 8'1 + 8'2", 0, 0, 8);
        value(8, "8'128 >> 8'1 << 8'1", 0, 0, 128);
        value(8, "8'3 | 8'5 ^ 8'6 & 8'12", 0, 0, 3 | 5 ^ 6 & 12);
        value(8, "8'6 & 8'12 ^ 8'5 | 8'3", 0, 0, 6 & 12 ^ 5 | 3);
        value(1, "8'1 < 8'2 == 1'1", 0, 0, 1);
        value(1, "1'1 == 8'2 < 8'1", 0, 0, 0);
        value(1, "8'1 == 8'2 != 1'1", 0, 0, 1);
        value(1, "8'5 <= 8'4 + 8'1", 0, 0, 1);
        value(1, "8'3 < 8'4 <= 1'1", 0, 0, 1);
        value(1, "8'4 < 8'3 < 1'1", 0, 0, 1);
        value(8, "-8'1 + 8'3", 0, 0, 2);
        value(8, "~8'1[7:1][0] ? 8'1 : 8'2", 0, 0, 1);
        value(8, "-8'2[7:0] * 8'3", 0, 0, 250);
    }
}
