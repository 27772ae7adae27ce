/** Promises 4 and 6: FAULTS of the first sort. A ` stands before THE PLACE. */
public final class SyntaxTest {
    private static final Check CHECK = new Check();
    private static final String HEAD = "bits 8; reg p: 8; reg q: 1; file f: 8[4]; ";

    public static void main(String[] args) {
        tokens();
        numbers();
        names();
        codes();
        items();
        statements();
        exprs();
        filesOrNot();
        firstSortGoesFirst();
        CHECK.finish();
    }

    private static void wrong(String text) {
        CHECK.fault(text, 1);
    }

    private static void wrongIn(String doings) {
        wrong(HEAD + "op o \"0000abcc\" { " + doings);
    }

    private static void right(String text) {
        CHECK.right(text);
    }

    private static void rightIn(String doings) {
        right(HEAD + "op o \"0000abcc\" { " + doings + " }");
    }

    private static void tokens() {
        wrong("`");
        wrong(" \t\r\n# nothing`");
        wrong("bits 8`");
        right("bits 8;");
        right("#\nbits#8;\n8\t;\r\n# the end");
        right("bits 8;#");
        wrong("bits 8; `\u000b");
        wrong("bits 8; `\u0000");
        wrong("bits 8; `$");
        wrong("bits 8; `\u00e4");
        wrong("bits 8; >`");
        wrong("bits 8; >` ");
        wrong("bits 8; >`=");
        wrong("bits 8; `>>");
        wrong("bits 8; `@ >");
        wrong("bits 8; `; \"");
        wrong("bits 8; `. ");
        wrongIn("p = p >` p; }");
        wrongIn("p = p >` > p; }");
        wrongIn("p = p `= p; }");
        rightIn("p = p<<p>>p;");
        rightIn("q = p<=p;");
        wrongIn("q = p < `= p;");
        wrongIn("q = p `! = p;");
    }

    private static void numbers() {
        wrong("bits 18446744073709551615`");
        wrong("bits 1844674407370955161`6;");
        wrong("bits 18446744073709551614`0;");
        wrong("bits 9999999999999999999`9");
        right("bits 0000000000000000000000000000008;");
        wrong("bits 000000000000000000000000000001844674407370955161`6;");
        CHECK.fault("bits `18446744073709551615;", 3);
        CHECK.fault("bits `0xffffffffffffffff;", 3);
        right("bits 0x8;");
        right("bits 0x0000000000000008;");
        wrong("bits 0x0000000000000000`8;");
        wrong("bits 0x`;");
        wrong("bits 0x`");
        wrong("bits 0x`g");
        wrong("bits 0`X8;");
        wrong("bits 8`a;");
        wrong("bits 8`_;");
        wrong("bits 0x8`g;");
        wrong("bits 0x8`_;");
        wrong("bits 00`x8;");
        rightIn("p = 8'0xfF;");
        rightIn("p = 8 ' 255;");
    }

    private static void names() {
        String longest = "abcdefghijklmnopqrstuvwxyz_01234";
        right("bits 8; reg " + longest + ": 8;");
        wrong("bits 8; reg " + longest + "`5: 8;");
        wrong("bits 8; reg " + longest + "`_: 8;");
        right("bits 8; reg _: 8; reg __: 8; reg Reg: 1; reg Bits: 2; reg _9: 3;");
        wrong("bits 8; reg `9 a: 8;");
        for (String word : "bits reg file zero fetch from op let trap if else sx zx slt sdiv srem sra".split(" ")) {
            wrong("bits 8; reg `" + word + ": 8;");
            wrong("bits 8; op `" + word + " \"00000000\" {}");
            right("bits 8; reg " + word + "_: 8;");
            wrong("bits 8; reg p: 8; op o \"00000000\" { let `" + word + " = p; }");
        }
    }

    private static void codes() {
        wrong("bits 8; op o \"`");
        wrong("bits 8; op o \"00000000`");
        wrong("bits 8; op o \"0000`2000\" {}");
        wrong("bits 8; op o \"0000` 000\" {}");
        wrong("bits 8; op o \"0000`_000\" {}");
        wrong("bits 8; op o \"0000`\n000\" {}");
        wrong("bits 8; op o \"0000`#000\" {}");
        right("bits 8; op o \"01.azAZ.\" {}");
        CHECK.fault("bits 8; op o `\"\" {}", 5);
    }

    private static void items() {
        wrong("`8;");
        wrong("`reg p: 8;");
        wrong("bits `;");
        wrong("bits `p;");
        wrong("bits 8 `reg");
        wrong("bits 8; `bits 8;");
        wrong("bits 8; `p = 8;");
        wrong("bits 8; `}");
        wrong("bits 8; reg`");
        wrong("bits 8; reg p `8;");
        wrong("bits 8; reg p: `p;");
        wrong("bits 8; reg p: 8`");
        wrong("bits 8; reg p: 8 `[4];");
        wrong("bits 8; file p: 8`;");
        wrong("bits 8; file p: 8[`];");
        wrong("bits 8; file p: 8[4`;");
        wrong("bits 8; file p: 8[4]`");
        wrong("bits 8; file p: 8[4] `nought;");
        wrong("bits 8; file p: 8[4] zero `zero;");
        right("bits 8; file p: 8[4]zero;");
        wrong("bits 8; reg p: 8 `zero;");
        wrong("bits 8; fetch `8 from m;");
        wrong("bits 8; fetch p `m;");
        wrong("bits 8; fetch p from `;");
        wrong("bits 8; fetch p from m`");
        wrong("bits 8; op `\"00000000\" {}");
        wrong("bits 8; op o `{}");
        wrong("bits 8; op o \"00000000\" `;");
        wrong("bits 8; op o \"00000000\" {`");
        wrong("bits 8; op o \"00000000\" {} `;");
    }

    private static void statements() {
        wrongIn("`;");
        wrongIn("`8'1;");
        wrongIn("`{ }");
        wrongIn("`else { }");
        wrongIn("`reg r: 8;");
        wrongIn("let`");
        wrongIn("let l `: 8;");
        wrongIn("let l = `;");
        wrongIn("let l = 8'1`");
        wrongIn("let l `[8'1] = p;");
        wrongIn("p `;");
        wrongIn("p `== p;");
        wrongIn("p[`]");
        wrongIn("p[8'1`;");
        wrongIn("f[8'1] `;");
        wrongIn("f[8'1] `[8'1] = p;");
        wrongIn("f[8'1] = p `]");
        wrongIn("`(p) = p;");
        wrongIn("trap `;");
        wrongIn("trap `p;");
        wrongIn("trap 1`");
        wrongIn("trap 1 `' 1;");
        wrongIn("if { `}");
        wrongIn("if `; { }");
        wrongIn("if q `;");
        wrongIn("if q `p = p;");
        wrongIn("if q { } else `p = p;");
        wrongIn("if q { } else `;");
        wrongIn("if q { } else { } `else { }");
        wrongIn("if q { }`");
        wrongIn("if q { } } `;");
        rightIn("if q { } else if q { } else if q { } else { }");
        rightIn("if {q, q} == 2'0 { if q { } } else { if q { } }");
        rightIn("if(q){}");
        wrongIn("if {q, q`;");
    }

    private static void exprs() {
        wrongIn("p = `;");
        wrongIn("p = p `p;");
        wrongIn("p = p `8;");
        wrongIn("p = 8`;");
        wrongIn("p = 8 `+ p;");
        wrongIn("p = 8'`p;");
        wrongIn("p = 8'1`'1;");
        wrongIn("p = p + `;");
        wrongIn("p = p + `* p;");
        wrongIn("p = `* p;");
        wrongIn("p = - `;");
        wrongIn("p = - ~ ! `)");
        wrongIn("p = p `~ p;");
        wrongIn("p = (p`;");
        wrongIn("p = (p `, p);");
        wrongIn("p = (`);");
        wrongIn("p = (p `];");
        wrongIn("p = p `);");
        wrongIn("p = {`};");
        wrongIn("p = {p,`};");
        wrongIn("p = {p `);");
        wrongIn("p = {p `: p};");
        wrongIn("p = p `, p;");
        wrongIn("p = p `: p;");
        wrongIn("p = p `};");
        wrongIn("p = q ? p `;");
        wrongIn("p = q ? `: p;");
        wrongIn("p = q ? p : `;");
        wrongIn("p = q ? p : p `: p;");
        wrongIn("p = (q ? p `);");
        wrongIn("p = {q ? p `, p};");
        rightIn("p = q ? q ? p : p : q ? p : p;");
        wrongIn("p = sx `p;");
        wrongIn("p = sx(`, 8);");
        wrongIn("p = sx(p`);");
        wrongIn("p = sx(p, `p);");
        wrongIn("p = zx(p, 8 `' 1);");
        wrongIn("p = zx(p, 8 `, 8);");
        wrongIn("q = slt(p`);");
        wrongIn("q = slt(p, `);");
        wrongIn("q = slt(p, p `, p);");
        wrongIn("q = slt(p, p `];");
        wrongIn("q = sra `[p];");
        wrongIn("p = sdiv(p, 8`);");
        wrongIn("p = p[`];");
        wrongIn("p = p[`p];");
        wrongIn("p = p[7`;");
        wrongIn("p = p[7:`];");
        wrongIn("p = p[7:0`:0];");
        wrongIn("p = p[7 `, 0];");
        wrongIn("p = p[7 `' 0];");
        rightIn("p = (p)[7:0][7:0][7:0];");
        rightIn("p = 8'1[7:0];");
        rightIn("q = {q, q}[1];");
        rightIn("p = sx(q, 8)[7:0];");
    }

    /** A [ behind a FILE's NAME is the cell's, behind another a part of bits. */
    private static void filesOrNot() {
        wrongIn("p = f[3`];");
        wrongIn("p = f[3`:0];");
        rightIn("p = f[8'3];");
        rightIn("p = f[p][7:0];");
        wrongIn("p = p[8`'3];");
        wrongIn("p = p[`p];");
        wrongIn("q = unknown[`p];");
        CHECK.fault(HEAD + "op o \"00000000\" { q = `unknown[0]; }", 2);
        // A FIELD hides a FILE.
        wrong(HEAD + "op o \"0000ffff\" { p = zx(f[`p], 8); }");
        right(HEAD + "op o \"0000ffff\" { q = f[3]; }");
        // Behind the op it's seen again.
        wrong(HEAD + "op o \"0000ffff\" { } op u \"1111gggg\" { q = f[3`]; }");
        // A FILE is known from behind its ITEM on.
        wrong("bits 8; reg p: 8; op o \"0000....\" { p = f[`p]; } file f: 8[4];");
        wrong("bits 8; reg p: 8; file f: 8[4]; op o \"0000....\" { p = f[0`]; }");
        // With a NUMBER out of range it's known all the same.
        wrong("bits 8; reg p: 8; file f: 99[4]; op o \"0000....\" { p = f[0`]; }");
        wrong("bits 8; reg p: 8; file f: 8[0]; op o \"0000....\" { p = f[0`]; }");
        wrong("bits 8; reg p: 8; file f: 8[65537]; op o \"0000....\" { p = f[0`]; }");
        // With fault 6 it isn't; nor does a second one of that NAME change what the first one is.
        wrong("bits 8; reg p: 8; file g: 8[65536]; file f: 8[1]; op o \"0000....\" { p = f[`p]; }");
        wrong("bits 8; reg p: 8; reg f: 8; file f: 8[1]; op o \"0000....\" { p = f[`p]; }");
        wrong("bits 8; reg p: 8; file f: 8[1]; reg f: 8; op o \"0000....\" { p = f[0`]; }");
        // Cells of a FILE with a NUMBER out of range aren't counted.
        wrong("bits 8; reg p: 8; file g: 0[65536]; file f: 8[65536]; op o \"0000....\" { p = f[0`]; }");
        // What's assigned is read the same way, whatever it is.
        wrongIn("p[0`] = p;");
        wrongIn("f[0`] = p;");
        CHECK.fault(HEAD + "op o \"00000000\" { `p[p] = p; }", 2);
        // A FIELD of a CODE of a wrong size hides, too.
        wrong(HEAD + "op o \"ff\" { p = f[`p]; }");
    }

    private static void firstSortGoesFirst() {
        wrong("bits 9; reg p: 0; reg p: 99; op o \"0\" { z = 8'256 + 7'1; } `;");
        wrong("bits 8; op o \"........\" {} op u \"........\" {} `;");
        // BROKEN is the last TOKEN, but one before it may be wrong first.
        wrong("bits 8; reg `reg >");
        wrong("bits 8; reg reg_ >`");
        wrong("bits 8; op o \"00000000\" { `) 5a }");
    }
}
