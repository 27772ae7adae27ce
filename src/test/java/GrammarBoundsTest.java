/** Boundary cases of the grammar and of DEPTH: a test for each sentence. A ` stands before THE PLACE. */
public final class GrammarBoundsTest {
    private static final Check CHECK = new Check();
    private static final String HEAD = "bits 8; reg p: 8; reg q: 1; file f: 8[4]; op o \"0000abcc\" { ";

    public static void main(String[] args) {
        lengths();
        anyNumber();
        registers();
        files();
        zeros();
        fetches();
        ops();
        statements();
        traps();
        ifs();
        choices();
        bindings();
        unaries();
        literals();
        posts();
        cellsOrParts();
        calls();
        words();
        depthOfBrackets();
        depthOfSigns();
        depthOfChoices();
        depthOfAll();
        CHECK.finish();
    }

    private static void wrong(String text) {
        CHECK.fault(text, 1);
    }

    private static void wrongIn(String doings) {
        wrong(HEAD + doings);
    }

    private static void rightIn(String doings) {
        CHECK.right(HEAD + doings + " }");
    }

    private static void lengths() {
        CHECK.sentence("TEXT: 'bits' NUMBER ';' ITEM*. (8, 16, 32 or 64: the LENGTH of instructions.)");
        for (int bits = 0; bits <= 130; bits++) {
            if (bits == 8 || bits == 16 || bits == 32 || bits == 64) {
                CHECK.due("LENGTH", Check.of("bits " + bits + ";").count(1), bits);
            } else {
                CHECK.fault("bits `" + bits + ";", 3);
            }
        }
        wrong("bits `;");
        wrong("bits `bits;");
        wrong("bits 8 `8;");
        wrong("bits 8`:");
        wrong("bits`");
        for (String far : "264 65544 4294967304 4294967328 18446744073709551615 0x8000000000000008".split(" ")) {
            CHECK.fault("bits `" + far + ";", 3);
        }
    }

    private static void anyNumber() {
        CHECK.sentence("x? may be missing, x* is there any number of times.");
        CHECK.right("bits 8;");
        CHECK.right("bits 8; reg p: 8;");
        CHECK.right("bits 8; op o \"........\" {}");
        CHECK.right("bits 8; reg p: 8; file f: 8[1]; fetch p from f; op o \"........\" {} reg q: 8; file g: 8[1] zero;");
        rightIn("");
        rightIn("p = p;");
        rightIn("p = p;".repeat(300));
        rightIn("p = p" + "[7:0]".repeat(300) + ";");
        rightIn("p = p" + " + p".repeat(300) + ";");
        rightIn("q = {q}; q = {{q}}; p = {q, q, q, q, q, q, q, q};");
        rightIn("if q {}");
        rightIn("if q {} else {}");
        rightIn("if q {}" + " else if q {}".repeat(300));
        rightIn("if q {}" + " else if q {}".repeat(300) + " else {}");
        wrong("bits 8`");
        wrong("`;");
        wrong("bits 8;`;");
        wrong("bits 8; `bits 8;");
        wrongIn("`;");
        wrongIn("p = p;`;");
        wrongIn("p = {`};");
        wrongIn("p = {p,`};");
        wrongIn("p = {`,p};");
        wrongIn("if q {} else {} `else {}");
    }

    private static void registers() {
        CHECK.sentence("'reg' NAME ':' NUMBER ';' (a register of that WIDTH)");
        for (int width = 1; width <= 64; width++) {
            MachineLoom loom = Check.of("bits 8; reg p: " + width + ";");
            CHECK.due("WIDTH", loom.thing(0, 0), width);
            CHECK.due("cells", loom.thing(0, 1), 0);
        }
        for (String width : "0 65 66 128 256 257 65537 4294967297 18446744073709551615".split(" ")) {
            CHECK.fault("bits 8; reg p: `" + width + ";", 3);
        }
    }

    private static void files() {
        CHECK.sentence("'file' NAME ':' NUMBER '[' NUMBER ']' 'zero'? ';' (a FILE of cells of that WIDTH, so many, 1 .. 65536");
        for (int cells : new int[] {1, 2, 255, 256, 257, 65535, 65536}) {
            MachineLoom loom = Check.of("bits 8; file f: 9[" + cells + "];");
            CHECK.due("cells", loom.thing(0, 1), cells);
            CHECK.due("WIDTH", loom.thing(0, 0), 9);
            loom.poke(0, cells - 1, -1);
            CHECK.due("the last one", loom.peek(0, cells - 1), 511);
            CHECK.thrown("the one behind it", java.util.NoSuchElementException.class, () -> loom.peek(0, cells));
        }
        for (String cells : "0 65537 65538 131072 4294967297 18446744073709551615".split(" ")) {
            CHECK.fault("bits 8; file f: 9[`" + cells + "];", 3);
            CHECK.fault("bits 8; file f: 9[`" + cells + "] zero;", 3);
        }
        for (String width : "0 65 18446744073709551615".split(" ")) {
            CHECK.fault("bits 8; file f: `" + width + "[4];", 3);
            CHECK.fault("bits 8; file f: `" + width + "[0];", 3);
        }
        String[] wrongs = {"file `: 8[4];", "file f `8[4];", "file f: `[4];", "file f: 8`;", "file f: 8 `zero;", "file f: 8[`];", "file f: 8[4`;", "file f: 8[4`:0];",
            "file f: 8[4]`", "file f: 8[4]`[4];", "file f: 8[4] `f;", "file f: 8[4] zero `zero;", "file f: 8[4] zero`", "file f: 8`'8[4];", "file f: 8[`f];"};
        for (String w : wrongs) {
            wrong("bits 8; " + w);
        }
        CHECK.due("WIDTH 1", Check.of("bits 8; file f: 1[1];").thing(0, 0), 1);
        CHECK.due("WIDTH 64", Check.of("bits 8; file f: 64[1];").thing(0, 0), 64);
    }

    private static void zeros() {
        CHECK.sentence("zero: cell 0 is 0 always, what's written there is lost)");
        for (int cells : new int[] {1, 2, 65536}) {
            String other = cells < 65536 ? "file g: 8[1]; " : "";
            MachineLoom loom = Check.of("bits 8; reg p: 8; reg i: 17; file f: 8[" + cells + "] zero; " + other
                    + "op o \"........\" { f[i] = 8'7; p = f[i]; }");
            loom.poke(2, 0, 5);
            CHECK.due("poked", loom.peek(2, 0), 0);
            CHECK.due("it is no TRAP", loom.step(0), 0);
            CHECK.due("assigned", loom.peek(2, 0), 0);
            CHECK.due("read in the same STEP", loom.peek(0, 0), 0);
            if (cells > 1) {
                loom.poke(1, 0, 1);
                CHECK.due("cell 1", loom.step(0), 0);
                CHECK.due("is not lost", loom.peek(2, 1), 7);
                CHECK.due("is not lost", loom.peek(0, 0), 7);
            }
            if (cells < 65536) {
                loom.poke(3, 0, 9);
                CHECK.due("a FILE without zero", loom.peek(3, 0), 9);
            }
        }
    }

    private static void fetches() {
        CHECK.sentence("'fetch' NAME 'from' NAME ';' (a register, and a FILE of WIDTH 8; at most once)");
        String things = "bits 8; reg p: 8; reg r: 8; file m: 8[4]; file s: 7[4]; file l: 9[4]; ";
        CHECK.right(things + "fetch p from m;");
        CHECK.fault(things + "fetch p from `s;", 2);
        CHECK.fault(things + "fetch p from `l;", 2);
        CHECK.fault(things + "fetch p from `r;", 2);
        CHECK.fault(things + "fetch p from `p;", 2);
        CHECK.fault(things + "fetch `m from m;", 2);
        CHECK.fault(things + "fetch `m from r;", 2);
        CHECK.fault(things + "fetch `n from n;", 2);
        CHECK.fault(things + "fetch p from m; `fetch p from m;", 6);
        CHECK.fault(things + "fetch p from m; `fetch r from m;", 6);
        CHECK.fault(things + "fetch p from m; op o \"........\" {} `fetch n from n;", 6);
        CHECK.fault(things + "fetch p from m; `fetch p from m; fetch p from m;", 6);
        CHECK.thrown("without one", IllegalStateException.class, () -> Check.of(things).run(1));
    }

    private static void ops() {
        CHECK.sentence("'op' NAME CODE BLOCK. BLOCK: '{' STATEMENT* '}'.");
        CHECK.right("bits 8; op o \"........\" {}");
        CHECK.right("bits 8;op o\"........\"{}");
        wrong("bits 8; op `\"........\" {}");
        wrong("bits 8; op o `{}");
        wrong("bits 8; op o `8 {}");
        wrong("bits 8; op o `: \"........\" {}");
        wrong("bits 8; op o \"........\" `;");
        wrong("bits 8; op o \"........\" {} `;");
        wrong("bits 8; op o \"........\" {} `}");
        wrong("bits 8; op o \"........\" {`");
        wrong("bits 8; op o \"........\" `\"........\" {}");
    }

    private static void statements() {
        CHECK.sentence("STATEMENT: 'let' NAME '=' EXPR ';' | NAME '=' EXPR ';' | NAME '[' EXPR ']' '=' EXPR ';'");
        rightIn("let l = p; p = l; f[l] = l;");
        wrongIn("let `= p;");
        wrongIn("let l `p;");
        wrongIn("let l = `;");
        wrongIn("let l = p `}");
        wrongIn("let l `[p] = p;");
        wrongIn("p `;");
        wrongIn("p = `;");
        wrongIn("p = p `}");
        wrongIn("p `: p;");
        wrongIn("p = p `= p;");
        wrongIn("f[`] = p;");
        wrongIn("f[p `= p;");
        wrongIn("f[p] `;");
        wrongIn("f[p] = `;");
        wrongIn("f[p] `[p] = p;");
        wrongIn("f[p `, p] = p;");
        wrongIn("`8'1 = p;");
        wrongIn("`(p) = p;");
        wrongIn("`{ p = p; }");
        // In order, each seeing what those before it did.
        CHECK.sentence("else its STATEMENTS in order");
        MachineLoom loom = Check.of("bits 8; reg p: 8; reg q: 8; file f: 8[4]; op o \"........\" { p = p + 8'1; q = p; p = p + q; f[8'1] = p;"
                + " p = f[8'1] + f[8'1]; let l = p; p = 8'0; q = l; if p == 8'0 { p = 8'9; } if p == 8'0 { p = 8'8; } }");
        loom.step(0);
        CHECK.due("p", loom.peek(0, 0), 9);
        CHECK.due("q", loom.peek(1, 0), 4);
        CHECK.due("f[1]", loom.peek(2, 1), 2);
    }

    private static void traps() {
        CHECK.sentence("'trap' NUMBER ';' (1 .. 1000000)");
        for (int n : new int[] {1, 2, 255, 256, 65536, 999999, 1000000}) {
            CHECK.due("trap " + n, Check.of("bits 8; op o \"........\" { trap " + n + "; }").step(0), n);
        }
        for (String n : "0 1000001 1000002 4294967295 4294967296 4294967297 18446744073709551615".split(" ")) {
            CHECK.fault("bits 8; op o \"........\" { trap `" + n + "; }", 3);
        }
        // Also where it's never come to.
        CHECK.fault("bits 8; op o \"........\" { trap 1; trap `0; }", 3);
    }

    private static void ifs() {
        CHECK.sentence("'if' EXPR BLOCK ('else' BLOCK | 'else' an 'if' STATEMENT)?");
        rightIn("if q { p = p; } else if q { p = p; }");
        wrongIn("if { `}");
        wrongIn("if q`;");
        wrongIn("if q {} else`");
        wrongIn("if q {} else `let l = p;");
        wrongIn("if q {} else `trap 1;");
        wrongIn("if q {} else `p = p;");
        wrongIn("`else {}");
        wrongIn("if q {} p = p; `else {}");
        // An else is that of the if whose BLOCK it stands behind.
        MachineLoom loom = Check.of("bits 8; reg p: 8; op o \"aabb....\" { p = 8'0; if a == 2'0 { if b == 2'0 { p = 8'1; } } else { p = 8'2; } }");
        int[] due = {1, 0, 0, 0, 2, 2, 2, 2};
        for (int word = 0; word < due.length; word++) {
            loom.step(word << 4);
            CHECK.due("p", loom.peek(0, 0), due[word]);
        }
        // Of a row of them just one BLOCK is gone through, the first whose EXPR is 1.
        StringBuilder row = new StringBuilder("bits 8; reg p: 8; reg n: 8; op o \"aaaaaaaa\" { ");
        for (int i = 0; i < 20; i++) {
            row.append("if a <= 8'").append(10 * i).append(" { p = 8'").append(i).append("; n = n + 8'1; } else ");
        }
        MachineLoom with = Check.of(row + "{ p = 8'99; n = n + 8'1; } n = n + 8'1; }");
        MachineLoom without = Check.of(row.substring(0, row.length() - 5) + " n = n + 8'1; }");
        for (int word = 0; word < 256; word++) {
            int first = (word + 9) / 10;
            with.step(word);
            CHECK.due("p", with.peek(0, 0), first < 20 ? first : 99);
            CHECK.due("n", with.peek(1, 0), 2 * (word + 1) & 255);
            without.poke(0, 0, 77);
            without.step(word);
            CHECK.due("p", without.peek(0, 0), first < 20 ? first : 77);
        }
    }

    private static long valueOf(int width, String expr) {
        MachineLoom loom = Check.of("bits 8; reg p: " + width + "; op o \"........\" { p = " + expr + "; }");
        CHECK.due("step", loom.step(0), 0);
        return loom.peek(0, 0);
    }

    private static void value(int width, String expr, long due) {
        CHECK.due(expr, valueOf(width, expr), due);
    }

    private static void choices() {
        CHECK.sentence("CHOICE: OR ('?' EXPR ':' CHOICE)?");
        value(8, "1'0 ? 8'1 : 1'0 ? 8'2 : 8'3", 3);
        value(8, "1'1 ? 8'1 : 1'1 ? 8'2 : 8'3", 1);
        value(8, "1'1 ? 1'1 ? 8'1 : 8'2 : 8'3", 1);
        value(8, "1'0 | 1'1 ? 8'1 : 8'2 | 8'4", 1);
        value(8, "1'0 ? 8'1 : 8'2 | 8'4", 6);
        wrongIn("p = q ? p`;");
        wrongIn("p = q ? p : p `: p;");
        wrongIn("p = q `: p;");
        wrongIn("p = `? p : p;");
        wrongIn("p = (p `: p);");
        wrongIn("p = {p `: p};");
        wrongIn("p = f[p `: p];");
        wrongIn("p = sx(p `: 8);");
        wrongIn("q = slt(p `: p);");
        wrongIn("q = slt(p, p `: p);");
        wrongIn("f[p `: p] = p;");
        wrongIn("if q `: q {}");
    }

    private static void bindings() {
        CHECK.sentence("OR, from what binds least, each from the left: '|'; '^'; '&'; '==' '!='; '<' '<='; '<<' '>>'; '+' '-'; '*' '/' '%'.");
        // Of each level one sign against one of the next: read the other way, the VALUE is another one.
        value(8, "8'255 ^ 8'255 | 8'1", 1);
        value(8, "8'1 | 8'255 ^ 8'255", 1);
        value(8, "8'1 ^ 8'1 & 8'0", 1);
        value(8, "8'0 & 8'1 ^ 8'1", 1);
        value(1, "1'0 & 1'0 == 1'0", 0);
        value(1, "1'0 == 1'0 & 1'0", 0);
        value(1, "1'0 == 1'1 < 1'0", 1);
        value(1, "1'1 < 1'0 == 1'0", 1);
        value(1, "1'0 != 1'1 <= 1'0", 0);
        value(1, "1'0 < 1'1 << 1'1", 0);
        value(1, "1'1 << 1'0 <= 1'0", 0);
        value(8, "8'1 << 8'1 + 8'1", 4);
        value(8, "8'1 + 8'1 << 8'1", 4);
        value(8, "8'8 >> 8'2 - 8'1", 4);
        value(8, "8'2 + 8'2 * 8'3", 8);
        value(8, "8'2 * 8'3 + 8'2", 8);
        value(8, "8'9 - 8'8 / 8'2", 5);
        value(8, "8'9 - 8'8 % 8'3", 7);
        // From the left.
        value(8, "8'9 - 8'4 - 8'3", 2);
        value(8, "8'9 - 8'4 + 8'3", 8);
        value(8, "8'64 / 8'4 / 8'2", 8);
        value(8, "8'64 / 8'4 * 8'2", 32);
        value(8, "8'64 % 8'7 % 8'2", 1);
        value(8, "8'64 >> 8'2 >> 8'1", 8);
        value(8, "8'64 >> 8'2 << 8'1", 32);
        value(1, "1'0 == 1'0 == 1'0", 0);
        value(1, "1'0 != 1'1 == 1'0", 0);
        value(1, "1'0 < 1'1 < 1'1", 0);
        value(1, "1'1 <= 1'0 <= 1'0", 1);
    }

    private static void unaries() {
        CHECK.sentence("UNARY: '-' '~' '!' UNARY, or POST.");
        value(8, "-8'1 + 8'2", 1);
        value(8, "8'2 - -8'1", 3);
        value(8, "-~8'0", 1);
        value(8, "~-8'1", 0);
        value(1, "!!1'1", 1);
        value(1, "!1'1 == 1'0", 1);
        value(8, "-8'2 * 8'3", 250);
        value(1, "-8'2[1]", 1);
        value(8, "-8'2[7:0]", 254);
        wrongIn("p = -`;");
        wrongIn("p = p `~ p;");
        wrongIn("q = q `! q;");
    }

    private static void literals() {
        CHECK.sentence("PRIMARY: NUMBER ''' NUMBER (WIDTH, VALUE)");
        value(1, "1'0", 0);
        value(1, "1'1", 1);
        value(64, "64'0xffffffffffffffff", -1);
        value(64, "0x40'18446744073709551615", -1);
        value(63, "63'9223372036854775807", Long.MAX_VALUE);
        value(8, "8 ' 255", 255);
        value(8, "008'00255", 255);
        wrongIn("p = 8`;");
        wrongIn("p = 8 `p;");
        wrongIn("p = 8'`;");
        wrongIn("p = 8'`p;");
        wrongIn("p = 8'`'1;");
        wrongIn("p = 8'1`'1;");
        wrongIn("p = `'1;");
        wrongIn("p = 8'`-1;");
        CHECK.sentence("'(' EXPR ')' | '{' EXPR (',' EXPR)* '}'");
        value(8, "((8'1))", 1);
        value(8, "{(8'1)}", 1);
        value(8, "({4'1, 4'2})", 18);
        wrongIn("p = (`);");
        wrongIn("p = {`};");
        wrongIn("p = (p`, p);");
        wrongIn("p = {p`;");
        wrongIn("p = (p`};");
        wrongIn("p = {p`);");
        wrongIn("p = (p`];");
        wrongIn("p = {p`];");
        wrongIn("p = f[p`);");
        wrongIn("p = f[p`};");
        wrongIn("p = sx(p`];");
        wrongIn("q = slt(p, p`];");
        wrongIn("q = slt(p, p`};");
        wrongIn("p = q ? p`];");
        wrongIn("p = p`];");
        wrongIn("f[p`) = p;");
        wrongIn("p = {p, `, p};");
    }

    private static void posts() {
        CHECK.sentence("POST: PRIMARY ('[' NUMBER (':' NUMBER)? ']')*");
        value(8, "8'165[7:0][7:0]", 165);
        value(1, "(8'165)[7:4][3]", 1);
        value(2, "{8'165}[5:4]", 2);
        value(2, "zx(8'165, 16)[7:6]", 2);
        wrongIn("p = p[`];");
        wrongIn("p = p[7`;");
        wrongIn("p = p[7:`];");
        wrongIn("p = p[`:0];");
        wrongIn("p = p[7:0`:0];");
        wrongIn("p = p[7`'7];");
        wrongIn("p = p[`(7)];");
        wrongIn("p = p[`-7];");
    }

    private static void cellsOrParts() {
        CHECK.sentence("NAME '[' EXPR ']' (just if it's a FILE's NAME where it stands; a register's or other one, and a [, is a POST)");
        rightIn("p = f[p];");
        rightIn("p = f[p][7:0];");
        rightIn("p = f[8'3][7:0];");
        wrongIn("p = f[3`];");
        wrongIn("p = f[7`:0];");
        wrongIn("p = p[`p];");
        wrongIn("p = p[8`'3];");
        wrongIn("let l = p; q = l[`p];");
        rightIn("let l = p; q = l[0];");
        wrongIn("q = c[`p];");
        rightIn("q = c[0];");
        wrongIn("q = unknown[`p];");
        CHECK.fault(HEAD + "q = `unknown[0]; }", 2);
        CHECK.sentence("by the grammar above (a FILE's NAME or not: as known there)");
        // Before its ITEM it's none, and a FIELD hides it.
        wrong("bits 8; reg p: 8; op o \"........\" { p = f[`p]; } file f: 8[4];");
        CHECK.fault("bits 8; reg p: 8; op o \"........\" { p = `f[0]; } file f: 8[4];", 2);
        wrong("bits 8; reg p: 8; file f: 8[4]; op o \"ffff....\" { p = f[`p]; }");
        CHECK.right("bits 8; reg q: 1; file f: 8[4]; op o \"ffff....\" { q = f[3]; }");
        // (p)[..] and f[p] in brackets are no NAMES.
        wrongIn("p = (f)[`p];");
        rightIn("p = (f[p])[7:0];");
    }

    private static void calls() {
        CHECK.sentence("'sx' '(' EXPR ',' NUMBER ')' | 'zx' likewise | 'slt' '(' EXPR ',' EXPR ')' | 'sdiv', 'srem', 'sra' likewise.");
        for (String word : new String[] {"sx", "zx"}) {
            rightIn("p = " + word + "(q, 8);");
            wrongIn("p = " + word + "(q`);");
            wrongIn("p = " + word + "(q,`);");
            wrongIn("p = " + word + "(q, `p);");
            wrongIn("p = " + word + "(q, 8`'1);");
            wrongIn("p = " + word + "(q, 8`, 8);");
            wrongIn("p = " + word + " `q;");
            wrongIn("p = " + word + "`;");
        }
        for (String word : new String[] {"slt", "sdiv", "srem", "sra"}) {
            rightIn("q = " + word + "(q, q);");
            wrongIn("q = " + word + "(q`);");
            wrongIn("q = " + word + "(q,`);");
            wrongIn("q = " + word + "(q, 8`);");
            wrongIn("q = " + word + "(q, q`, q);");
            wrongIn("q = " + word + "`[q, q];");
        }
    }

    private static void words() {
        CHECK.sentence("The words bits reg file zero fetch from op let trap if else sx zx slt sdiv srem sra are no NAMES.");
        for (String word : "bits reg file zero fetch from op let trap if else sx zx slt sdiv srem sra".split(" ")) {
            wrong("bits 8; reg `" + word + ": 8;");
            wrong("bits 8; file `" + word + ": 8[4];");
            wrong("bits 8; fetch `" + word + " from m;");
            wrong("bits 8; fetch p from `" + word + ";");
            wrong("bits 8; op `" + word + " \"........\" {}");
            wrongIn("let `" + word + " = p;");
            String great = word.substring(0, 1).toUpperCase() + word.substring(1);
            for (String name : new String[] {great, word + "_", "_" + word, word + "1", word + word}) {
                CHECK.right("bits 8; reg " + name + ": 8; op " + name + " \"........\" { " + name + " = -" + name + "; }");
            }
            // As what is assigned or in an EXPR it's wrong at it, or behind it if it begins something else there.
            if (!"let trap if".contains(word)) {
                wrongIn("`" + word + " = p;");
            }
            if (!"sx zx slt sdiv srem sra".contains(word)) {
                wrongIn("p = `" + word + ";");
            }
        }
    }

    private static String times(int n, String s) {
        return s.repeat(n);
    }

    /** With the { of the op 60 are open then, and one more is wrong. */
    private static void deepest(String opener, String inner, String closer, String wrongOpener) {
        rightIn("p = " + times(59, opener) + inner + times(59, closer) + ";");
        wrongIn("p = " + times(59, opener) + wrongOpener);
        wrongIn("p = " + times(59, opener) + wrongOpener + inner + times(60, closer) + ";");
    }

    private static void depthOfBrackets() {
        CHECK.sentence("DEPTH of a TOKEN: how many brackets ( [ { before it aren't closed before it");
        deepest("(", "p", ")", "`(");
        deepest("{", "p", "}", "`{");
        deepest("f[", "p", "]", "f`[");
        deepest("sx(", "p", ", 8)", "sx`(");
        deepest("zx(", "p", ", 8)", "zx`(");
        deepest("sdiv(p, ", "p", ")", "sdiv`(p, ");
        deepest("srem(", "p", ", p)", "srem`(");
        deepest("sra(p, ", "p", ")", "sra`(p, ");
        wrongIn("p = " + times(59, "(") + "slt`(p, p)");
        wrongIn("p = " + times(59, "(") + "p`[7:0]");
        rightIn("p = " + times(58, "(") + "p[7:0]" + times(58, ")") + ";");
        wrongIn("p = f[" + times(58, "(") + "f`[p");
        rightIn("f[" + times(58, "(") + "p" + times(58, ")") + "] = p;");
        wrongIn("f[" + times(58, "(") + "`(p");
        rightIn(times(59, "if q {") + times(59, "}"));
        wrongIn(times(59, "if q {") + "if q `{");
        wrongIn(times(59, "if q {") + "f`[p] = p;");
        rightIn(times(58, "if q {") + "f[p] = (p);" + times(58, "}"));
        wrongIn(times(59, "if q {} else {") + "if q `{");
        // What is closed counts no more.
        rightIn("p = " + times(200, "(p)+") + "p;");
        rightIn(times(200, "if q {} else {} "));
        rightIn(times(200, "f[p] = {p};"));
    }

    private static void depthOfSigns() {
        CHECK.sentence("and how many UNARY signs and '?' before it are such that their UNARY, their CHOICE isn't over; at most 60.");
        deepest("-", "p", "", "`-");
        deepest("~", "p", "", "`~");
        rightIn("q = " + times(59, "!") + "q;");
        wrongIn("q = " + times(59, "!") + "`!q;");
        // A UNARY isn't over before the last [ ] of its POST is, and is over then.
        wrongIn("p = " + times(59, "-") + "p`[7:0];");
        rightIn("p = " + times(58, "-") + "p[7:0][7:0];");
        wrongIn("p = " + times(59, "-") + "f`[p];");
        rightIn("p = " + times(59, "-") + "p + " + times(59, "-") + "p;");
        rightIn("p = " + times(59, "-") + "p == p ? (p) : p;");
        rightIn("p = q & " + times(59, "!") + "q ? " + times(58, "-") + "p : " + times(58, "-") + "p;");
        rightIn("p = sdiv(" + times(58, "-") + "p, " + times(58, "-") + "p);");
        wrongIn("p = sdiv(" + times(58, "-") + "p, " + times(58, "-") + "`-p);");
    }

    private static void depthOfChoices() {
        CHECK.sentence("'?' before it are such that their UNARY, their CHOICE isn't over");
        rightIn("p = " + times(59, "q ? p : ") + "p;");
        wrongIn("p = " + times(59, "q ? p : ") + "q `? p : p;");
        rightIn("p = " + times(59, "q ? ") + "p" + times(59, " : p") + ";");
        wrongIn("p = " + times(59, "q ? ") + "q `? p");
        wrongIn("p = " + times(59, "q ? p : ") + "`(p);");
        wrongIn("p = " + times(59, "q ? p : ") + "`-p;");
        wrongIn("p = " + times(59, "q ? p : ") + "p`[7:0];");
        // A CHOICE within brackets, between ? and :, or in a part of { } is over with it.
        rightIn("p = " + times(100, "(q ? p : p) + ") + "p;");
        rightIn("p = q ? " + times(58, "q ? p : ") + "p : " + times(58, "q ? p : ") + "p;");
        rightIn("p = {" + times(58, "q ? q : ") + "q, " + times(58, "q ? q : ") + "q, 6'0};");
        wrongIn("p = {" + times(58, "q ? q : ") + "q, " + times(58, "q ? q : ") + "q `? q : q, 6'0};");
        rightIn("p = f[" + times(58, "q ? q : ") + "q];");
        rightIn("if " + times(59, "q ? q : ") + "q { if " + times(58, "q ? q : ") + "q {} }");
        rightIn(times(100, "p = q ? p : p; "));
    }

    private static void depthOfAll() {
        CHECK.sentence("or that makes a DEPTH of 61");
        // Ten of each kind, 60 in all with the two BLOCKS; one more of any kind is wrong.
        String deep = "if q { p = " + times(10, "({-f[q?p:") + times(8, "~");
        String[] more = {"`(p", "`{p", "`-p", "`~p", "`!p", "f`[p", "p`[7:0", "sx`(p", "slt`(p"};
        for (String s : more) {
            wrongIn(deep + s);
        }
        // At a '?' the UNARIES are over.
        wrongIn(deep + "q?" + times(7, "(") + "q`?p");
        rightIn(deep + "p" + times(10, "]})") + "; }");
        // The first wrong TOKEN is told, of whichever sort of SYNTAX it is.
        wrongIn(deep + "`;" + times(5, "("));
        wrongIn(deep + "`((;");
        wrongIn(deep + "`( $");
        wrongIn("p = " + times(59, "(") + "p`");
        wrongIn("p = " + times(59, "(") + "`");
        // A text that ends deep leaves nothing of its DEPTH to the next one.
        MachineLoom loom = new MachineLoom();
        for (int turn = 0; turn < 10; turn++) {
            CHECK.thrown("ends deep", IllegalStateException.class, () -> Check.build(loom, HEAD + deep + ";"));
            CHECK.due("60", Check.build(loom, HEAD + deep + "p" + times(10, "]})") + "; } }"), 1);
            CHECK.thrown("61", IllegalStateException.class, () -> Check.build(loom, HEAD + deep + "-p" + times(10, "]})") + "; } }"));
            CHECK.due("THE PLACE of 61", loom.fault(1), HEAD.length() + deep.length());
        }
        for (int turn = 0; turn < 60; turn++) {
            CHECK.thrown("much is begun", IllegalStateException.class, () -> Check.build(loom, HEAD + "p = " + times(58, "p + (") + ";"));
        }
        CHECK.due("59", Check.build(loom, HEAD + "p = " + times(59, "p + (") + "p" + times(59, ")") + "; }"), 1);
    }
}
