/** Boundary cases of NAMES and of WIDTHS: a test for each sentence. A ` stands before THE PLACE. */
public final class NameBoundsTest {
    private static final Check CHECK = new Check();
    private static final String HEAD = "bits 8; reg p: 8; reg q: 1; reg w: 64; file f: 8[4]; file g: 64[2]; ";

    public static void main(String[] args) {
        thingsFromBehind();
        fieldsInTheirBlock();
        letsInTheirBlock();
        fieldsHide();
        letsMustBeNew();
        opsApart();
        wideAsTold();
        sidesTheSame();
        compares();
        shifts();
        divisions();
        signs();
        nots();
        choices();
        widened();
        parts();
        joins();
        assigned();
        CHECK.finish();
    }

    private static void in(int number, String doings) {
        CHECK.fault(HEAD + "op o \"0000abcc\" { " + doings + " }", number);
    }

    private static void right(String doings) {
        CHECK.right(HEAD + "op o \"0000abcc\" { " + doings + " }");
    }

    private static void thingsFromBehind() {
        CHECK.sentence("A register's, FILE's NAME is known from behind its ITEM on.");
        CHECK.fault("bits 8; op o \"........\" { `p = 8'1; } reg p: 8;", 2);
        CHECK.fault("bits 8; op o \"........\" { `f[8'1] = 8'1; } file f: 8[4];", 2);
        CHECK.fault("bits 8; file m: 8[4]; fetch `p from m; reg p: 8;", 2);
        CHECK.fault("bits 8; reg p: 8; fetch p from `m; file m: 8[4];", 2);
        CHECK.right("bits 8; reg p: 8; op o \"........\" { p = 8'1; }");
        CHECK.right("bits 8; op o \"0.......\" {} reg p: 8; op u \"1.......\" { p = 8'1; }");
        // So a let of an op before it may have its NAME.
        CHECK.right("bits 8; op o \"0.......\" { let p = 8'1; } reg p: 8; op u \"1.......\" { p = 8'1; }");
    }

    private static void fieldsInTheirBlock() {
        CHECK.sentence("In an op: each letter of its CODE is a FIELD, in its BLOCK");
        CHECK.right(HEAD + "op o \"abcdefgh\" { q = a; q = b; q = c; q = d; q = e; q = f; q = g; q = h; }");
        for (char letter : "abcdefghijklmnopqrstuvwxyzABCDEFGHIJKLMNOPQRSTUVWXYZ".toCharArray()) {
            MachineLoom loom = Check.of("bits 8; reg r_: 4; op o \"." + letter + "." + letter + "." + letter + "." + letter + "\" { r_ = " + letter + "; }");
            loom.step(0b01010001);
            CHECK.due("the FIELD " + letter, loom.peek(0, 0), 0b1101);
        }
        CHECK.right(HEAD + "op o \"zzzzZZZZ\" { let l = z + 4'1; let k = Z + 4'1; if q { let m = z; } }");
        CHECK.fault(HEAD + "op o \"0.......\" { q = `a; } op u \"1aaaaaaa\" { }", 2);
        CHECK.fault(HEAD + "op o \"0aaaaaaa\" { } op u \"1.......\" { q = `a; }", 2);
        CHECK.fault(HEAD + "op o \"0aaaaaaa\" { q = `A; }", 2);
        CHECK.fault(HEAD + "op o \"0aaaaaaa\" { q = `aa; }", 2);
        CHECK.right(HEAD + "op o \"0aaaaaaa\" { let l = a + 7'1; } op u \"1a......\" { q = a; }");
    }

    private static void letsInTheirBlock() {
        CHECK.sentence("a let's NAME is known behind its STATEMENT in its BLOCK (and BLOCKS in it).");
        in(2, "let l = `l;");
        in(2, "p = `l; let l = p;");
        in(2, "if q { p = `l; } let l = p;");
        right("let l = p; p = l; if q { p = l; if q { p = l; } else { p = l; } } else if q { p = l; } p = l;");
        in(2, "if q { let l = p; p = l; } p = `l;");
        in(2, "if q { let l = p; } else { p = `l; }");
        in(2, "if q { let l = p; } else if `l == p { }");
        in(2, "if q { if q { let l = p; } p = `l; }");
        in(2, "if q { } else { let l = p; } p = `l;");
        CHECK.fault(HEAD + "op o \"0.......\" { let l = p; } op u \"1.......\" { p = `l; }", 2);
        right("if q { let l = p; } else { let l = w; } if q { let l = q; } let l = p;");
    }

    private static void fieldsHide() {
        CHECK.sentence("A FIELD hides a register or FILE of that NAME");
        CHECK.fault(HEAD + "op o \"pppp....\" { `p = 8'1; }", 2);
        CHECK.fault(HEAD + "op o \"pppp....\" { w `= p; }", 4);
        CHECK.fault(HEAD + "op o \"ffff....\" { `f[8'1] = 8'1; }", 2);
        CHECK.right(HEAD + "op o \"ppppffff\" { let l = p + f; }");
        // Just in its op.
        CHECK.right(HEAD + "op o \"0pppffff\" { } op u \"1.......\" { p = f[p]; }");
        MachineLoom loom = Check.of("bits 8; reg p: 8; reg r: 4; op o \"0000pppp\" { r = p; } op u \"1111....\" { r = p[7:4]; }");
        loom.poke(0, 0, 0xa0);
        loom.step(7);
        CHECK.due("the FIELD", loom.peek(1, 0), 7);
        loom.step(0xf0);
        CHECK.due("the register", loom.peek(1, 0), 10);
    }

    private static void letsMustBeNew() {
        CHECK.sentence("a let's NAME must not be known there, as anything.");
        in(2, "let `p = p;");
        in(2, "let `f = p;");
        in(2, "let `a = p;");
        in(2, "let `c = p;");
        in(2, "let l = p; let `l = p;");
        in(2, "let l = p; if q { let `l = p; }");
        in(2, "let l = p; if q { } else { if q { let `l = p; } }");
        right("let d = p; let P = p; let o = p; let ab = p;");
    }

    private static void opsApart() {
        CHECK.sentence("Ops' NAMES are apart from others, and different.");
        CHECK.right("bits 8; reg p: 8; file f: 8[4]; op p \"00......\" { let f_ = p; } op f \"01......\" {} op a \"1aaaaaaa\" { let l = a; }");
        CHECK.right("bits 8; op p \"0.......\" {} reg p: 8;");
        CHECK.right("bits 8; op o \"0.......\" { let o = 8'1; let u = o; } op u \"1.......\" { let o = 8'1; }");
        CHECK.fault("bits 8; op o \"0.......\" {} op `o \"1.......\" {}", 2);
        CHECK.fault("bits 8; op o \"00......\" {} op u \"01......\" {} op `o \"1.......\" {}", 2);
        CHECK.fault("bits 8; reg p: 8; op o \"0.......\" { p = `o; }", 2);
        CHECK.fault("bits 8; reg p: 8; op o \"0.......\" { } op u \"1.......\" { `o = p; }", 2);
    }

    /** The EXPR has that WIDTH: with one bit more or less it does not go together with the register. */
    private static void wide(String things, String expr, int width) {
        for (int other = Math.max(1, width - 1); other <= Math.min(64, width + 1); other++) {
            String text = things + " reg z: " + other + "; op o \"aabbb...\" { z `= " + expr + "; }";
            if (other == width) {
                CHECK.right(text.replace("`", ""));
            } else {
                CHECK.fault(text, 4);
            }
        }
    }

    private static final int[] SOME = {1, 2, 3, 8, 31, 32, 33, 63, 64};

    private static String things(int width) {
        return "bits 8; reg x: " + width + "; reg y: " + width + "; file c: " + width + "[4]; reg t: 1; reg n: 7;";
    }

    private static void wideAsTold() {
        CHECK.sentence("as told of a register, FILE's cell, VALUE; a FIELD as many bits as its letter is in the CODE; a let's as its EXPR's.");
        for (int width : SOME) {
            wide(things(width), "x", width);
            wide(things(width), "c[n]", width);
            wide(things(width), "(x)", width);
            wide(things(width), width + "'0", width);
            wide(things(width), width + "'1", width);
            CHECK.fault(things(width) + "reg z: " + (width == 64 ? 63 : width + 1) + "; op o \"........\" { let l = x; let k = l; z `= k; }", 4);
        }
        wide(things(8), "a", 2);
        wide(things(8), "b", 3);
        CHECK.right("bits 64; reg w: 64; op o \"" + "a".repeat(64) + "\" { w = a; }");
        CHECK.fault("bits 64; reg w: 64; op o \"." + "a".repeat(63) + "\" { w `= a; }", 4);
    }

    private static void sidesTheSame() {
        CHECK.sentence("+ - * / % & | ^: both sides', which must be the same");
        for (String sign : "+ - * / % & | ^".split(" ")) {
            for (int width : SOME) {
                wide(things(width), "x " + sign + " y", width);
            }
            in(4, "let l = p `" + sign + " 7'1;");
            in(4, "let l = p `" + sign + " 9'1;");
            in(4, "let l = 63'1 `" + sign + " w;");
            in(4, "let l = q `" + sign + " 2'1;");
        }
    }

    private static void compares() {
        CHECK.sentence("== != < <= slt: sides the same, 1");
        for (int width : SOME) {
            for (String sign : "== != < <=".split(" ")) {
                wide(things(width), "x " + sign + " y", 1);
            }
            wide(things(width), "slt(x, y)", 1);
        }
        for (String sign : "== != < <=".split(" ")) {
            in(4, "q = p `" + sign + " 7'1;");
            in(4, "q = 9'1 `" + sign + " p;");
        }
        in(4, "q = `slt(p, 7'1);");
        in(4, "q = `slt(9'1, p);");
    }

    private static void shifts() {
        CHECK.sentence("<< >> sra: the left one's (the right one any)");
        for (int width : SOME) {
            for (String right : new String[] {"t", "n", "y", "64'0xffffffffffffffff", "1'0"}) {
                wide(things(width), "x << " + right, width);
                wide(things(width), "x >> " + right, width);
                wide(things(width), "sra(x, " + right + ")", width);
            }
        }
    }

    private static void divisions() {
        CHECK.sentence("sdiv srem as /");
        for (String word : new String[] {"sdiv", "srem"}) {
            for (int width : SOME) {
                wide(things(width), word + "(x, y)", width);
            }
            in(4, "p = `" + word + "(p, 7'1);");
            in(4, "p = `" + word + "(9'1, p);");
        }
    }

    private static void signs() {
        CHECK.sentence("- ~ as theirs");
        for (int width : SOME) {
            wide(things(width), "-x", width);
            wide(things(width), "~x", width);
            wide(things(width), "-~-x", width);
        }
    }

    private static void nots() {
        CHECK.sentence("!: 1 of 1");
        wide(things(1), "!x", 1);
        wide(things(1), "!!x", 1);
        for (int width = 2; width <= 64; width++) {
            CHECK.fault(things(width) + "op o \"........\" { t = `!x; }", 4);
        }
        in(4, "q = !`!p;");
        right("q = !p[7]; q = !(p == p); q = !a;");
        in(4, "q = `!c;");
    }

    private static void choices() {
        CHECK.sentence("?: the first of 1, the others the same, theirs");
        for (int width : SOME) {
            wide(things(width), "t ? x : y", width);
            wide(things(width), "t ? x : t ? y : x", width);
        }
        in(4, "p = 2'1 `? p : p;");
        in(4, "p = p `? p : p;");
        in(4, "p = q `? p : 7'1;");
        in(4, "p = q `? 9'1 : p;");
        in(4, "p = q ? p : q `? p : 7'1;");
        in(4, "p = q ? q `? p : 7'1 : p;");
        in(4, "p = q `? q ? p : p : 7'1;");
        right("q = q ? q : q;");
    }

    private static void widened() {
        CHECK.sentence("sx, zx: the NUMBER (out of range if it's below the EXPR's WIDTH, or above 64)");
        for (String word : new String[] {"sx", "zx"}) {
            for (int width : SOME) {
                wide(things(width), word + "(x, " + width + ")", width);
                wide(things(width), word + "(x, 64)", 64);
                String head = things(width) + "op o \"........\" { let l = " + word + "(x, `";
                CHECK.fault(head + (width - 1) + "); }", 3);
                CHECK.fault(head + "0); }", 3);
                CHECK.fault(head + "65); }", 3);
                CHECK.fault(head + "4294967360); }", 3);
                CHECK.fault(head + "18446744073709551615); }", 3);
            }
            wide(things(8), word + "(x, 9)", 9);
        }
    }

    private static void parts() {
        CHECK.sentence("[n] 1, [h:l] h - l + 1 (h, n are out of range if not below the WIDTH, l if above h)");
        for (int width : SOME) {
            int top = width - 1;
            wide(things(width), "x[" + top + "]", 1);
            wide(things(width), "x[0]", 1);
            wide(things(width), "x[" + top + ":0]", width);
            wide(things(width), "x[" + top + ":" + top + "]", 1);
            String head = things(width) + "op o \"........\" { let l = x[";
            CHECK.fault(head + "`" + width + "]; }", 3);
            CHECK.fault(head + "`" + width + ":0]; }", 3);
            CHECK.fault(head + "`" + width + ":" + width + "]; }", 3);
            CHECK.fault(head + "`" + width + ":" + (width + 1) + "]; }", 3);
            CHECK.fault(head + top + ":`" + width + "]; }", 3);
            CHECK.fault(head + "0:`1]; }", 3);
            CHECK.fault(head + "0:`18446744073709551615]; }", 3);
            CHECK.fault(head + "`18446744073709551615]; }", 3);
            CHECK.fault(head + "`18446744073709551615:18446744073709551615]; }", 3);
            CHECK.fault(head + "`4294967296]; }", 3);
            CHECK.fault(head + "0:`4294967296]; }", 3);
        }
        wide(things(8), "x[6:2]", 5);
        wide(things(8), "x[6:2][4]", 1);
        in(3, "q = p[6:2][`5];");
    }

    private static void joins() {
        CHECK.sentence("{ }: all together, at most 64.");
        for (int width : SOME) {
            wide(things(width), "{x}", width);
            if (width < 64) {
                wide(things(width), "{x, t}", width + 1);
            }
            if (width <= 32) {
                wide(things(width), "{x, y}", 2 * width);
            }
        }
        right("w = {p, p, p, p, p, p, p, p}; w = {63'0, q}; w = {q, 63'0}; w = {w};");
        in(4, "w = `{w, q};");
        in(4, "w = `{q, w};");
        in(4, "w = `{p, p, p, p, p, p, p, p, q};");
        in(4, "w = `{33'0, 32'0};");
        in(4, "w = `{w, w, w, w, w, w, w, w};");
        in(4, "w = {`{w, q}};");
        in(4, "w = `{{p, p, p, p}, {p, p, p, p}, q};");
        // 65536 and more bits are too many as well.
        in(4, "w = `{w" + ", w".repeat(1100) + "};");
    }

    private static void assigned() {
        CHECK.sentence("What's assigned has the WIDTH of the register or cell; if's EXPR 1; a FILE's index any.");
        right("p = 8'1; q = 1'1; w = 64'1; f[8'1] = 8'1; g[8'1] = 64'1;");
        in(4, "p `= 7'1;");
        in(4, "p `= 9'1;");
        in(4, "q `= 2'1;");
        in(4, "w `= 63'1;");
        in(4, "f[8'1] `= 7'1;");
        in(4, "f[8'1] `= 9'1;");
        in(4, "g[8'1] `= 63'1;");
        right("if q {} if 1'1 {} if p[0] {} if a {}");
        in(4, "`if 2'1 {}");
        in(4, "`if w {}");
        in(4, "if q {} else `if 2'1 {}");
        right("f[1'1] = p; f[64'1] = p; f[2'1] = p; f[33'1] = p; p = f[q]; p = f[w]; p = f[f[f[c]]]; w = g[g[g[q]]];");
    }
}
