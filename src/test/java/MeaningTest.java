/** Promises 4 and 6: FAULTS of the second sort, 2 to 6, and those of the third, 7. */
public final class MeaningTest {
    private static final Check CHECK = new Check();
    private static final String HEAD =
            "bits 8; reg p: 8; reg q: 1; reg w: 64; file f: 8[4]; file g: 64[2]; ";

    public static void main(String[] args) {
        namesOfThings();
        namesInOps();
        numbers();
        widths();
        withoutWidth();
        codes();
        tooMuch();
        fetches();
        leastPlace();
        notApart();
        CHECK.finish();
    }

    private static void in(int number, String doings) {
        CHECK.fault(HEAD + "op o \"0000abcc\" { " + doings + " }", number);
    }

    private static void right(String doings) {
        CHECK.right(HEAD + "op o \"0000abcc\" { " + doings + " }");
    }

    private static void namesOfThings() {
        CHECK.fault("bits 8; reg p: 8; reg `p: 8;", 2);
        CHECK.fault("bits 8; reg p: 8; file `p: 8[4];", 2);
        CHECK.fault("bits 8; file p: 8[4]; reg `p: 8;", 2);
        CHECK.fault("bits 8; op o \"00000000\" {} op `o \"00000001\" {}", 2);
        CHECK.right("bits 8; reg p: 8; op p \"00000000\" {} op q \"00000001\" {} reg q: 1;");
        CHECK.right("bits 8; reg p: 8; reg P: 8; reg p_: 8;");
        CHECK.fault("bits 8; op o \"00000000\" { `p = 8'1; } reg p: 8;", 2);
    }

    private static void namesInOps() {
        in(2, "p = `z;");
        in(2, "`z = p;");
        in(2, "`z[p] = p;");
        in(2, "p = `f;");
        in(2, "`f = p;");
        in(2, "`p[p] = p;");
        in(2, "`a = q;");
        in(2, "`a[p] = q;");
        in(2, "let l = p; `l = p;");
        in(2, "let l = p; `l[p] = p;");
        in(2, "let `a = p;");
        in(2, "let `p = p;");
        in(2, "let `f = p;");
        in(2, "let l = p; let `l = p;");
        in(2, "let l = p; if q { let `l = p; }");
        in(2, "let l = `l;");
        in(2, "p = `o;");
        in(2, "if q { let l = p; } p = `l;");
        in(2, "if q { let l = p; } else { p = `l; }");
        in(2, "p = `l; let l = p;");
        right("if q { let l = p; } else { let l = q; } let l = w;");
        right("let l = p; if q { p = l; if q { p = l; } } p = l;");
        right("let o = p; p = o;");
        // Lets and FIELDS are gone with their op.
        CHECK.fault(HEAD + "op o \"0000aaaa\" { let l = a; } op u \"1000....\" { let m = `l; }", 2);
        CHECK.fault(HEAD + "op o \"0000aaaa\" { } op u \"1000....\" { let m = `a; }", 2);
        CHECK.right(HEAD + "op o \"0000aaaa\" { let l = a; } op u \"1000....\" { let l = p; let a = p; }");
        // A FIELD hides a register or FILE of its NAME.
        CHECK.fault(HEAD + "op o \"0000pppp\" { `p = 8'1; }", 2);
        CHECK.fault(HEAD + "op o \"0000ffff\" { `f[8'1] = 8'1; }", 2);
        CHECK.fault(HEAD + "op o \"0000pppp\" { let `p = 8'1; }", 2);
        CHECK.right(HEAD + "op o \"0000pppf\" { let l = p + 3'1; q = f; }");
        CHECK.right(HEAD + "op o \"0000pppf\" { } op u \"1000....\" { p = f[p]; }");
        // _ is no letter.
        in(2, "p = `_;");
        in(2, "p = `A;");
    }

    private static void numbers() {
        for (String bits : "0 1 7 9 24 63 65 128 4294967304 18446744073709551615".split(" ")) {
            CHECK.fault("bits `" + bits + ";", 3);
        }
        for (String bits : "8 16 32 64 0x40".split(" ")) {
            CHECK.right("bits " + bits + ";");
        }
        for (String width : "0 65 256 4294967297 0xffffffffffffffff".split(" ")) {
            CHECK.fault("bits 8; reg p: `" + width + ";", 3);
            CHECK.fault("bits 8; file p: `" + width + "[4];", 3);
            in(3, "let l = `" + width + "'1;");
            in(3, "w = zx(p, `" + width + ");");
        }
        CHECK.right("bits 8; reg p: 1; reg q: 64; file f: 1[1]; file g: 64[65535];");
        CHECK.right("bits 8; file g: 64[65536];");
        for (String cells : "0 65537 4294967297 0xffffffffffffffff".split(" ")) {
            CHECK.fault("bits 8; file p: 8[`" + cells + "];", 3);
        }
        for (String trap : "0 1000001 4294967297 0xffffffffffffffff".split(" ")) {
            in(3, "trap `" + trap + ";");
        }
        right("if q { trap 1; } else { trap 1000000; }");
        in(3, "p = 8'`256;");
        in(3, "q = 1'`2;");
        in(3, "w = zx(63'`0x8000000000000000, 64);");
        right("p = 8'255; q = 1'1; w = 64'0xffffffffffffffff;");
        in(3, "w = sx(p, `7);");
        in(3, "q = zx(p, `1);");
        right("p = sx(p, 8); w = sx(p, 64); w = zx(w, 64);");
        in(3, "q = p[`8];");
        in(3, "q = p[`18446744073709551615];");
        in(3, "q = q[`1];");
        in(3, "p = p[`8:0];");
        in(3, "p = p[`8:9];");
        in(3, "p = p[3:`4];");
        in(3, "p = p[3:`18446744073709551615];");
        in(3, "p = p[`18446744073709551615:0];");
        right("q = p[7]; q = p[0]; p = p[7:0]; q = p[3:3]; q = w[63];");
        in(3, "q = p[3:0][`4];");
    }

    private static void widths() {
        for (String sign : "+ - * / % & | ^".split(" ")) {
            in(4, "p = p `" + sign + " q;");
            right("p = p " + sign + " p;");
            in(4, "w `= p " + sign + " p;");
        }
        for (String sign : "== != < <=".split(" ")) {
            in(4, "q = p `" + sign + " w;");
            in(4, "p `= p " + sign + " p;");
            right("q = p " + sign + " p;");
        }
        for (String sign : "<< >>".split(" ")) {
            right("p = p " + sign + " w; p = p " + sign + " q;");
            in(4, "w `= p " + sign + " w;");
        }
        in(4, "q = `slt(p, w);");
        in(4, "p `= slt(p, p);");
        in(4, "p = `sdiv(p, w);");
        in(4, "p = `srem(p, q);");
        right("q = slt(p, p); p = sdiv(p, p); p = srem(p, p); p = sra(p, w); p = sra(p, q);");
        in(4, "w `= sra(p, w);");
        in(4, "p `= -q;");
        in(4, "p `= ~q;");
        in(4, "q = `!p;");
        in(4, "q = !`!p;");
        right("q = !q; q = !!q; q = -q; p = ~-p;");
        in(4, "p = p `? p : p;");
        in(4, "p = q `? p : w;");
        in(4, "p = q `? p : q ? w : w;");
        in(4, "p `= q ? w : w;");
        right("p = q ? p : p;");
        in(4, "w = `{w, q};");
        in(4, "w = `{p, p, p, p, p, p, p, p, q};");
        right("w = {p, p, p, p, p, p, p, p};");
        in(4, "w `= {p, p, p, p, p, p, p};");
        in(4, "`if p { }");
        in(4, "`if c { }");
        in(4, "p `= q[0];");
        in(4, "p `= q[0:0];");
        in(4, "if q { } else `if w { }");
        right("if p == p { }");
        in(4, "f[p] `= q;");
        right("f[q] = p; f[w] = p; g[p] = w; p = f[q]; w = g[w];");
        in(4, "w `= f[q];");
        in(4, "w `= c;");
        in(4, "let l = c; p `= l;");
        right("let l = c; let k = l == 2'1; q = k; q = a; q = b;");
        in(4, "w `= zx(p, 32);");
        in(4, "w `= w[31:0];");
        in(4, "w `= w[3];");
        // What binds tighter is read first.
        right("q = p + p == p; q = q & p == p ? q : q;");
        in(4, "q = p `& p == p;");
        in(4, "q = q == q `< p;");
        right("q = q | p == p ^ p < p;");
        right("p = p - p - p * p / p % p << p + p >> q;");
        right("q = !p[0]; q = ~p[7:6][1];");
    }

    /** What has a fault has no WIDTH, and makes no other fault 4. */
    private static void withoutWidth() {
        in(2, "q = p + `z;");
        in(2, "q = {p, p, p, p, p, p, p, p, p, `z};");
        in(2, "p = p ? p : `z;");
        in(2, "p = p ? `z : w;");
        in(2, "w = slt(p, `z);");
        in(2, "if `z { }");
        in(2, "if p + `z { }");
        in(2, "q = !(p + `z);");
        in(2, "q = f[`z];");
        in(2, "q = p << `z;");
        in(2, "q = sra(p, `z);");
        in(2, "q = sx(`z, 8);");
        in(2, "q = `z[9];");
        in(2, "let l = `z; q = l; w = l + p; q = l[70];");
        in(3, "q = p + p[`9];");
        in(3, "q = p + 8'`256;");
        in(3, "q = p + `0'0;");
        in(3, "q = {w, w, sx(p, `70)};");
        in(4, "q = p `+ w == p;");
        in(4, "q = (p `+ w) * p;");
        in(4, "q = p == (p `+ w);");
        in(4, "let l = p `+ w; q = l; p = l;");
        in(4, "p = {w, `{w, w}};");
        in(4, "q = `!p + w;");
        CHECK.fault("bits 8; reg r: `0; op o \"00000000\" { r = 8'1; r = r + 8'1; }", 3);
        CHECK.fault("bits 8; file r: `0[4]; op o \"00000000\" { r[8'1] = 8'1; r[8'1] = r[1'1] + 8'1; }", 3);
        // All in a text is looked at, and l above h always is.
        in(3, "q = p[3:`4] + w;");
        in(2, "`z = p + 9'1000;");
        in(2, "`z[p + w] = p;");
        in(4, "f[p `+ w] = 9'1000;");
    }

    private static void codes() {
        CHECK.fault("bits 8; op o `\"0000000\" {}", 5);
        CHECK.fault("bits 8; op o `\"000000000\" {}", 5);
        CHECK.fault("bits 8; op o `\"\" {}", 5);
        CHECK.fault("bits 16; op o `\"00000000\" {}", 5);
        CHECK.fault("bits 8; op o `\"" + "a".repeat(300) + "\" { let l = a; }", 5);
        CHECK.right("bits 16; op o \"abcdefghijklmnop\" {}");
        CHECK.right("bits 64; op o \"" + "a".repeat(64) + "\" { let l = a + 64'1; }");
        CHECK.fault("bits 8; op o \"00000000\" {} op `o \"0\" {}", 2);
    }

    private static String things(int n) {
        StringBuilder b = new StringBuilder("bits 8;");
        for (int i = 0; i < n; i++) {
            b.append("reg r").append(i).append(":8;");
        }
        return b.toString();
    }

    private static String ops(int n) {
        StringBuilder b = new StringBuilder("bits 16;");
        for (int i = 0; i < n; i++) {
            String bits = Integer.toBinaryString(0x10000 + i).substring(1);
            b.append("op o").append(i).append('"').append(bits).append("\"{}");
        }
        return b.toString();
    }

    private static String lets(int n) {
        StringBuilder b = new StringBuilder(HEAD).append("op o \"0000abcc\"{if q{");
        for (int i = 0; i < n; i++) {
            b.append(i == 30 ? "}if q{" : "").append("let l").append(i).append("=p;");
        }
        return b.toString();
    }

    private static void tooMuch() {
        CHECK.right(things(64));
        CHECK.fault(things(64) + "reg `q:8;", 6);
        CHECK.fault(things(64) + "file `q:8[1];", 6);
        CHECK.fault(things(64) + "reg `q:0;", 6);
        CHECK.fault(things(64) + "reg `r5:8;", 2);
        CHECK.fault(things(65).replace("reg r64", "reg `r64") + "op o \"\" {}", 6);
        CHECK.right("bits 8; file a: 8[65535]; file b: 64[1];");
        CHECK.fault("bits 8; file a: 8[65535]; file `b: 8[2];", 6);
        CHECK.fault("bits 8; file a: 8[65536]; file `b: 8[1]; reg b: 8;", 6);
        CHECK.right("bits 8; file a: 8[65536]; reg b: 8;");
        // A FILE with fault 6 changes nothing: its NAME isn't known, its cells aren't counted.
        CHECK.fault("bits 8; file a: 8[65535]; file `b: 8[2]; file c: 8[1]; reg b: 8;", 6);
        CHECK.fault("bits 8; file a: 8[60000]; file `b: 8[60000]; op o \"00000000\" { b[8'1] = 8'1; }", 6);
        // Nor are those of one with a NUMBER out of range.
        CHECK.fault("bits 8; file a: 8[65536]; file b: `65[65536];", 3);
        CHECK.fault("bits 8; file a: 8[65536]; file b: 8[`65537];", 3);
        CHECK.right(ops(400));
        MachineLoom loom = new MachineLoom();
        CHECK.due("512 ops", Check.build(loom, ops(512)), 512);
        CHECK.due("the last one", loom.decode(511), 511);
        CHECK.due("free", loom.free(), 65536 - 512);
        CHECK.fault(ops(512) + "op `q \"1111111111111111\" {}", 6);
        CHECK.fault(ops(512) + "op `o7 \"1111111111111111\" {}", 2);
        CHECK.right(lets(64) + "}}");
        CHECK.fault(lets(64) + "let `l=p;}}", 6);
        CHECK.fault(lets(64) + "let `l63=p;}}", 2);
        CHECK.right(lets(64) + "}} op u \"1000....\"{ let l0 = p; }");
        // A let whose NAME was known changes nothing, so it isn't one more.
        CHECK.fault(HEAD + "op o \"0000abcc\" { let `p = q; " + lets(64).substring(HEAD.length() + 16) + "}}", 2);
    }

    private static void fetches() {
        CHECK.right("bits 8; reg p: 8; file m: 8[4]; fetch p from m;");
        CHECK.right("bits 8; reg p: 1; file m: 8[4] zero; fetch p from m; reg q: 8;");
        CHECK.fault("bits 8; reg p: 8; file m: 8[4]; fetch `x from m;", 2);
        CHECK.fault("bits 8; reg p: 8; file m: 8[4]; fetch `m from m;", 2);
        CHECK.fault("bits 8; reg p: 8; file m: 8[4]; fetch p from `p;", 2);
        CHECK.fault("bits 8; reg p: 8; file m: 8[4]; fetch p from `x;", 2);
        CHECK.fault("bits 8; reg p: 8; file m: 7[4]; fetch p from `m;", 2);
        CHECK.fault("bits 8; reg p: 8; file m: 16[4]; fetch p from `m;", 2);
        CHECK.fault("bits 8; fetch `p from m; reg p: 8; file m: 8[4];", 2);
        CHECK.fault("bits 8; reg p: 8; file m: 8[4]; fetch p from m; `fetch p from m;", 6);
        CHECK.fault("bits 8; reg p: 8; file m: 8[4]; fetch p from m; `fetch x from x;", 6);
        CHECK.fault("bits 8; file m: 8[4]; reg p: 8; fetch p from m; `fetch p from m;", 6);
    }

    private static void leastPlace() {
        CHECK.fault("bits `9; reg p: 0; op o \"\" { z = z; }", 3);
        CHECK.fault("bits 8; reg p: `0; reg p: 8; op o \"\" { z = z; }", 3);
        CHECK.fault("bits 8; op o `\"\" { z = z; } op o \"\" { }", 5);
        in(4, "p `= q; z = z; p = 8'256;");
        in(2, "`z = q; p = q;");
        // The '=' is before the EXPR, but a faulty EXPR makes none there.
        in(2, "p = q + `z;");
        in(3, "q = sx(p, `1) + {w, w};");
        in(4, "q = `{w, w} + sx(p, 1);");
        in(4, "q = `slt(p, w) + z;");
        in(4, "p = q `? p : w; z = z;");
        in(4, "p = q ? p `+ w : z;");
        in(4, "`if p { z = z; }");
    }

    private static String op(String name, String code) {
        return "op " + name + " \"" + code + "\" {} ";
    }

    private static void notApart() {
        CHECK.fault("bits 8; " + op("a", "........") + op("b", "........"), 7, 1, 0);
        CHECK.fault("bits 8; " + op("a", "0.......") + op("b", "1.......") + op("c", ".0......"), 7, 2, 0);
        CHECK.fault("bits 8; " + op("a", "0.......") + op("b", "11......") + op("c", "1.1....."), 7, 2, 1);
        CHECK.fault("bits 8; " + op("a", "00......") + op("b", "01......") + op("c", "1......0")
                + op("d", "0..1....") + op("e", ".......0"), 7, 3, 0);
        CHECK.fault("bits 8; " + op("a", "xxxx0000") + op("b", "0000xxxx"), 7, 1, 0);
        CHECK.fault("bits 64; " + op("a", "0" + "z".repeat(63)) + op("b", "." + "z".repeat(62) + "1"), 7, 1, 0);
        CHECK.right("bits 64; " + op("a", "0" + "z".repeat(63)) + op("b", "1" + "z".repeat(62) + "1"));
        CHECK.right("bits 8; " + op("a", "xxxx0000") + op("b", "0000xxx1"));
        // Every pair is apart, yet no place parts all of them.
        CHECK.right("bits 8; " + op("a", "01......") + op("b", ".01.....") + op("c", "1.0....."));
        // MEANING goes first.
        CHECK.fault("bits 8; " + op("a", "........") + op("b", "........") + "reg p: `0;", 3);
    }
}
