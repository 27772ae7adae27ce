/** Boundary cases of FAULTS, and of promises 4 and 6: a test for each sentence. A ` stands before THE PLACE. */
public final class FaultBoundsTest {
    private static final Check CHECK = new Check();
    private static final String HEAD = "bits 8; reg p: 8; reg q: 1; reg w: 64; file f: 8[4]; ";

    public static void main(String[] args) {
        sorts();
        syntaxPlaces();
        endOfInput();
        brokenTokens();
        leastPlace();
        wrongNames();
        numbersOutOfRange();
        widthsAtTheirSigns();
        codesOfLength();
        tooManyThings();
        tooManyCells();
        tooManyOps();
        tooManyLets();
        secondFetch();
        withoutWidth();
        lowAboveHigh();
        knownChangesNothing();
        tooMuchChangesNothing();
        knownAllTheSame();
        notApart();
        buildEmpties();
        buildRefused();
        buildAnswers();
        faultTells();
        faultStays();
        faultBad();
        CHECK.finish();
    }

    private static void in(int number, String doings) {
        CHECK.fault(HEAD + "op o \"0000abcc\" { " + doings + " }", number);
    }

    private static void right(String doings) {
        CHECK.right(HEAD + "op o \"0000abcc\" { " + doings + " }");
    }

    private static void sorts() {
        CHECK.sentence("FAULTS, of three sorts; if there's one of the first sort, none of the others is told, and so on.");
        String meaning = "reg p: 0; reg p: 8; op o \"\" { z = 8'256; }";
        String codes = "op a \"........\" {} op b \"........\" {} ";
        CHECK.fault("bits 9; " + meaning + codes + "`$", 1);
        CHECK.fault("bits 8; " + codes + "`}", 1);
        CHECK.fault("bits 8; " + codes + "reg p: `0;", 3);
        CHECK.fault("bits 8; " + codes + "reg p: 8; reg `p: 8;", 2);
        CHECK.fault("bits 8; " + codes + "op c `\"...\" {}", 5);
        CHECK.fault("bits 8; " + codes, 7, 1, 0);
    }

    private static void syntaxPlaces() {
        CHECK.sentence("THE PLACE is that of the first CHARACTER (from 0) of the first TOKEN with which, after those before it, no right TEXT could go on");
        CHECK.fault("`reg p: 8;", 1);
        CHECK.fault("`bit 8;", 1);
        CHECK.fault("   `reg p: 8;", 1);
        CHECK.fault("#\n`8", 1);
        CHECK.fault("bits `bits 8;", 1);
        CHECK.fault("bits 8; reg abc `def: 8;", 1);
        CHECK.fault("bits 8; reg abc `1234: 8;", 1);
        CHECK.fault("bits 8; reg abc: `\"....\";", 1);
        CHECK.fault("bits 8; op abc `<< {}", 1);
        // Just the first one is told.
        CHECK.fault("bits 8; reg `: ; reg : ;", 1);
        CHECK.fault("bits 8; `$ $", 1);
    }

    private static void endOfInput() {
        CHECK.sentence("or INPUT's length, if just its end is wrong.");
        String whole = "bits 8;reg p:8;file f:8[4]zero;fetch p from f;op o\"aaaa....\"{let l=f[a];if l<8'1{p=l?p:{a,4'0};}else{trap 5;}}";
        for (int length = 0; length < whole.length(); length++) {
            String text = whole.substring(0, length);
            int behind = whole.charAt(length);
            boolean inToken = length > 0 && Character.isLetterOrDigit(whole.charAt(length - 1)) && Character.isLetterOrDigit(behind);
            boolean overItem = text.endsWith(";") && text.indexOf('{') < 0;
            if (overItem) {
                CHECK.right(text);
            } else if (!inToken) {
                CHECK.fault(text, 1, length, -1);
            }
        }
        // SPACES behind the last TOKEN are of INPUT's length, too.
        CHECK.fault("`", 1);
        CHECK.fault("    `", 1);
        CHECK.fault("bits 8 \n\t\r `", 1);
        CHECK.fault("bits 8 # not over\n# nor here`", 1);
        CHECK.fault("bits 8; op o \"........\" {      `", 1);
    }

    private static void brokenTokens() {
        CHECK.sentence("BROKEN, which is wrong anywhere; its PLACE is that CHARACTER's, or INPUT's length if it ends too early.)");
        CHECK.fault("bits 8; reg p: 8`a;", 1);
        CHECK.fault("bits 8; reg p: 0x`;", 1);
        CHECK.fault("bits 8; reg p: 0x`", 1);
        CHECK.fault("bits 8; op o \"....`", 1);
        CHECK.fault("bits 8; op o \"`", 1);
        CHECK.fault("bits 8; >`", 1);
        CHECK.fault("bits 8; op o \"....`;", 1);
        // It is the last TOKEN: what stands behind it is none, and one before it may be wrong first.
        CHECK.fault("bits 8; `reg_ 5a", 1);
        CHECK.fault("bits 8; reg `5 5a", 1);
        CHECK.fault("bits 8; reg p 5`a ; ;", 1);
        // Where a right TOKEN of its kind could stand as where none could.
        CHECK.fault("5`a", 1);
        CHECK.fault("bits 8; 5`a", 1);
        CHECK.fault("bits 8; reg 5`a", 1);
        CHECK.fault("bits 8; reg p: 5`a", 1);
    }

    private static void leastPlace() {
        CHECK.sentence("of all such faults in the whole TEXT that with the least PLACE, of equal ones the lesser number, is told");
        CHECK.fault("bits `9; reg p: 65; reg p: 0; op o \"\" { z = 0'0; }", 3);
        CHECK.fault("bits 8; reg p: `65; reg p: 0; op o \"\" { z = 0'0; }", 3);
        CHECK.fault("bits 8; reg p: 8; reg `p: 0; op o \"\" { z = 0'0; }", 2);
        CHECK.fault("bits 8; reg p: 8; op o `\"\" { z = 0'0; }", 5);
        CHECK.fault("bits 8; reg p: 8; op o \"........\" { `z = 0'0; }", 2);
        // A sign that is found wrong later may stand before.
        in(4, "w `= p + p; p = p + q;");
        in(4, "w = `{w, p + p}; z = z;");
        in(4, "`if w { z = z; }");
        in(4, "q = p `== w + w; z = z;");
        in(4, "p = q `? p : w; z = z;");
        // Equal ones: a NAME that is known and one too many.
        CHECK.fault(things(64) + "reg `r0: 8;", 2);
        CHECK.fault(things(64) + "file `r0: 8[4];", 2);
        CHECK.fault("bits 8; file f: 8[65536]; file `f: 8[1];", 2);
        CHECK.fault(ops(512) + "op `o0 \"........\" {}", 2);
        CHECK.fault(lets(64) + "let `l0 = p; }", 2);
        CHECK.fault(lets(64) + "let `p = p; }", 2);
    }

    private static void wrongNames() {
        CHECK.sentence("2 a NAME that isn't known, or is and must not be, or isn't of the right kind (what's assigned must be a register, with [ ] a FILE; "
                + "fetch's a register, a FILE of WIDTH 8; in an EXPR not a FILE without [ ]), at it");
        in(2, "p = `unknown;");
        in(2, "`unknown = p;");
        in(2, "`unknown[p] = p;");
        in(2, "`f = p;");
        in(2, "`a = q;");
        in(2, "let l = p; `l = p;");
        in(2, "`p[p] = p;");
        in(2, "`a[p] = p;");
        in(2, "let l = p; `l[p] = p;");
        in(2, "p = `f;");
        in(2, "p = p + (`f);");
        in(2, "if `f {}");
        in(2, "p = f[`f];");
        in(2, "f[`f] = p;");
        in(2, "f[p] = `f;");
        right("p = f[p]; f[p] = f[f[p]]; p = f[p][7:0];");
    }

    private static void numbersOutOfRange() {
        CHECK.sentence("3 a NUMBER that's out of range (also a literal's VALUE that its WIDTH can't hold, WIDTHS not 1 .. 64), at it");
        for (int width = 1; width <= 63; width++) {
            long first = 1L << width;
            String unsigned = Long.toUnsignedString(first);
            in(3, "let l = " + width + "'`" + unsigned + ";");
            in(3, "let l = " + width + "'`18446744073709551615;");
            right("let l = " + width + "'" + Long.toUnsignedString(first - 1) + ";");
            right("let l = " + width + "'0;");
        }
        right("let l = 64'18446744073709551615; w = l;");
        in(3, "let l = `0'0;");
        in(3, "let l = `0'1;");
        in(3, "let l = `65'0;");
        in(3, "let l = `18446744073709551615'0;");
        in(3, "let l = `4294967297'0;");
        in(3, "let l = `65'18446744073709551615;");
    }

    private static void widthsAtTheirSigns() {
        CHECK.sentence("4 WIDTHS that don't go together: at the sign, 'sx', 'zx', 'slt', 'sdiv', 'srem', 'sra', '?', 'if', the '=' of an assignment, the '{'");
        for (String sign : "| ^ & == != < <= + - * / %".split(" ")) {
            in(4, "let l = p `" + sign + " q;");
            in(4, "let l = (p) `" + sign + " (q);");
        }
        for (String word : "slt sdiv srem".split(" ")) {
            in(4, "let l = `" + word + "(p, q);");
            in(4, "let l = p + `" + word + "(q, w);");
        }
        in(4, "let l = `!p;");
        in(4, "let l = -`!p;");
        in(4, "let l = p `? p : p;");
        in(4, "`if p {}");
        in(4, "p `= q;");
        in(4, "f[p] `= q;");
        in(4, "let l = `{w, q};");
        in(4, "f[`{w, q}] = p;");
    }

    private static void codesOfLength() {
        CHECK.sentence("5 a CODE not of LENGTH signs, at it");
        for (int length : new int[] {8, 16, 32, 64}) {
            String head = "bits " + length + "; op o `\"";
            for (int signs : new int[] {0, 1, 7, 8, 9, 15, 16, 17, 31, 32, 33, 63, 64, 65, 256, 264}) {
                String text = head + "0".repeat(signs) + "\" {}";
                if (signs == length) {
                    CHECK.right(text.replace("`", ""));
                } else {
                    CHECK.fault(text, 5);
                }
            }
            CHECK.fault(head + "a".repeat(length + 1) + "\" { let l = a; }", 5);
        }
        // Also of an op with other faults.
        CHECK.fault("bits 8; op o \"0.......\" {} op `o \"\" {}", 2);
        CHECK.fault("bits 8; op o `\"0\" {} op o \"\" {}", 5);
    }

    private static String things(int n) {
        StringBuilder b = new StringBuilder("bits 8;");
        for (int i = 0; i < n; i++) {
            b.append(i % 3 == 1 ? "file" : "reg").append(" r").append(i).append(i % 3 == 1 ? ":8[2];" : ":8;");
        }
        return b.toString();
    }

    private static void tooManyThings() {
        CHECK.sentence("6 too much: registers and FILES above 64");
        MachineLoom loom = Check.of(things(64));
        CHECK.due("THINGS", loom.count(2), 64);
        loom.poke(63, 0, 77);
        CHECK.due("the last one", loom.peek(63, 0), 77);
        CHECK.fault(things(64) + "reg `z: 8;", 6);
        CHECK.fault(things(64) + "file `z: 8[1];", 6);
        CHECK.fault(things(64) + "reg `z: 8; reg z: 8; reg y: 8;", 6);
        CHECK.right(things(63) + "reg z: 8;");
        CHECK.right(things(63) + "file z: 8[1];");
        StringBuilder registers = new StringBuilder("bits 8;");
        StringBuilder files = new StringBuilder("bits 8;");
        for (int i = 0; i < 64; i++) {
            registers.append("reg r").append(i).append(":8;");
            files.append("file r").append(i).append(":8[1024];");
        }
        CHECK.right(registers.toString());
        CHECK.fault(registers + "reg `z:8;", 6);
        CHECK.right(files.toString());
        CHECK.fault(files + "reg `z:8;", 6);
    }

    private static void tooManyCells() {
        CHECK.sentence("cells above 65536 together");
        CHECK.right("bits 8; file a: 8[65536];");
        CHECK.right("bits 8; file a: 8[65535]; file b: 8[1];");
        CHECK.right("bits 8; file a: 8[1]; file b: 8[65535];");
        CHECK.right("bits 8; file a: 8[32768]; file b: 64[32768]; reg c: 8;");
        CHECK.fault("bits 8; file a: 8[65536]; file `b: 8[1];", 6);
        CHECK.fault("bits 8; file a: 8[65535]; file `b: 8[2];", 6);
        CHECK.fault("bits 8; file a: 8[1]; file `b: 8[65536];", 6);
        CHECK.fault("bits 8; file a: 8[32768]; file b: 8[32767]; file `c: 8[2];", 6);
        MachineLoom loom = Check.of("bits 8; file a: 64[65535]; reg r: 64; file b: 64[1];");
        CHECK.due("cells", loom.count(3), 65536);
        loom.poke(0, 65534, -1);
        loom.poke(2, 0, -2);
        CHECK.due("a register between them", loom.peek(1, 0), 0);
        CHECK.due("the last of a", loom.peek(0, 65534), -1);
        CHECK.due("the one of b", loom.peek(2, 0), -2);
        allFull(0);
        allFull(31);
        allFull(63);
    }

    /** 63 registers and as many cells as there may be, with the FILE at that place: each has its own VALUE. */
    private static void allFull(int at) {
        StringBuilder b = new StringBuilder("bits 64;");
        for (int t = 0; t < 64; t++) {
            b.append(t == at ? "file f:8[65536];" : "reg r" + t + ":64;");
        }
        int pc = at == 0 ? 1 : 0;
        b.append("fetch r").append(pc).append(" from f;op o\"").append("a".repeat(64)).append("\"{r2=a;f[64'65535]=8'9;}");
        MachineLoom loom = Check.of(b.toString());
        for (int t = 0; t < 64; t++) {
            loom.poke(t, t == at ? 65535 : 0, 100 + t);
        }
        loom.poke(pc, 0, 65528);
        CHECK.due("run of the last WORD", loom.run(500), 1);
        CHECK.due("trap", loom.trap(), -1);
        CHECK.due("the WORD", loom.peek(2, 0), 100L + at << 56);
        for (int t = 3; t < 64; t++) {
            if (t != at) {
                CHECK.due("register " + t, loom.peek(t, 0), 100 + t);
            }
        }
        CHECK.due("the last cell", loom.peek(at, 65535), 9);
        CHECK.due("the first cell", loom.peek(at, 0), 0);
        CHECK.due("pc", loom.peek(pc, 0), 65536);
    }

    private static String ops(int n) {
        StringBuilder b = new StringBuilder("bits 16;");
        for (int i = 0; i < n; i++) {
            String bits = Integer.toBinaryString(0x10000 + i).substring(1);
            b.append("op o").append(i).append('"').append(bits).append("\"{}");
        }
        return b.toString();
    }

    private static void tooManyOps() {
        CHECK.sentence("ops above 512");
        MachineLoom loom = new MachineLoom();
        CHECK.due("512 ops", Check.build(loom, ops(512)), 512);
        CHECK.due("count(4)", loom.count(4), 512);
        CHECK.due("the first one", loom.decode(0), 0);
        CHECK.due("the last one", loom.decode(511), 511);
        CHECK.due("none", loom.decode(512), -1);
        CHECK.due("the last one goes", loom.step(511), 0);
        CHECK.due("511 ops", Check.build(loom, ops(511)), 511);
        CHECK.fault(ops(512) + "op `z \"1111111111111111\" {}", 6);
        CHECK.fault(ops(512) + "op `z \"\" {}", 6);
        // Ops that are not apart wait.
        StringBuilder same = new StringBuilder("bits 8;");
        for (int i = 0; i < 512; i++) {
            same.append("op o").append(i).append("\"........\"{}");
        }
        CHECK.fault(same.toString(), 7, 1, 0);
        CHECK.fault(same + "op `z\"........\"{}", 6);
    }

    private static String lets(int n) {
        StringBuilder b = new StringBuilder("bits 8; reg p: 8; op o \"0.......\" { ");
        for (int i = 0; i < n; i++) {
            b.append("let l").append(i).append("=p;");
        }
        return b.toString();
    }

    private static void tooManyLets() {
        CHECK.sentence("lets of an op above 64");
        CHECK.right(lets(64) + "}");
        CHECK.fault(lets(64) + "let `z = p; }", 6);
        CHECK.fault(lets(64) + "if p == p { let `z = p; } }", 6);
        CHECK.fault(lets(64) + "if p == p {} else { let `z = p; } let y = p; }", 6);
        // Those of BLOCKS that are over count as well, those of other ops do not.
        String over = "if p == p { let a = p; } else { let a = p; }";
        CHECK.right(lets(62) + over + "}");
        CHECK.fault(lets(63) + over.replace("else { let a", "else { let `a") + "}", 6);
        CHECK.fault(lets(62) + over + "let `b = p; }", 6);
        CHECK.right(lets(64) + "} " + lets(64).substring(18).replace("op o \"0", "op u \"1") + "}");
        // Each of 64 has its own VALUE.
        StringBuilder sum = new StringBuilder("bits 8; reg p: 8; op o \"........\" { ");
        StringBuilder all = new StringBuilder("p = 8'0");
        for (int i = 0; i < 64; i++) {
            sum.append("let l").append(i).append("=8'").append(i).append(";");
            all.append(" ^ l").append(i);
        }
        MachineLoom loom = Check.of(sum.toString() + all + " + l63; }");
        loom.step(0);
        int due = 0;
        for (int i = 0; i < 63; i++) {
            due ^= i;
        }
        CHECK.due("all of them", loom.peek(0, 0), due ^ 126);
    }

    private static void secondFetch() {
        CHECK.sentence("a second fetch: at the NAME (the second 'fetch').");
        String one = "bits 8; reg p: 8; file m: 8[4]; fetch p from m; ";
        CHECK.right(one);
        CHECK.fault(one + "`fetch p from m;", 6);
        CHECK.fault(one + "reg r: 8; `fetch r from m; fetch r from m;", 6);
        CHECK.fault(one + "`fetch unknown from p;", 6);
        // The FILE may be the first THING, and the register the first one.
        CHECK.fault("bits 8; file m: 8[4]; reg p: 8; fetch p from m; `fetch p from m;", 6);
        CHECK.fault("bits 8; reg p: 8; file m: 8[4]; fetch p from m; op o \"........\" {} `fetch p from m;", 6);
    }

    private static void withoutWidth() {
        CHECK.sentence("What has a fault has no WIDTH, nor has an EXPR with a part that has none; such ones make no other fault 4, nor a NUMBER out of range by them");
        String[][] faulty = {
            {"`z", "`f", "f[`z]", "p << `z", "sra(p, `z)", "-`z", "~`z", "sx(`z, 8)", "p + (`z)"},
            {"8'`256", "`0'0", "`65'0", "p[`8]", "p[`8:0]", "p[3:`4]", "sx(p, `7)", "zx(p, `65)"},
            {"p `+ w", "(p `== w)", "`!p", "(p `? p : p)", "(q `? p : w)", "`{w, w}", "`slt(p, w)", "`sdiv(p, w)", "`srem(w, p)"}};
        for (int i = 0; i < faulty.length; i++) {
            for (String expr : faulty[i]) {
                partsWithout(2 + i, expr);
            }
        }
        CHECK.fault("bits 8; reg r: `0; op o \"........\" { r = 8'1; r = r + 9'1; r = r[70]; }", 3);
        CHECK.fault("bits 8; file r: 8[`0]; op o \"........\" { r[8'1] = 9'1; r[8'1] = r[8'1] + 9'1; }", 3);
    }

    /** Whatever is made of that EXPR, its fault is the one that is told. */
    private static void partsWithout(int number, String expr) {
        in(number, "q = (" + expr + ");");
        in(number, "w = p + (" + expr + ");");
        in(number, "w = q == (" + expr + ");");
        in(number, "q = !(" + expr + ");");
        in(number, "q = -(" + expr + ");");
        in(number, "q = {w, w, " + expr + "};");
        in(number, "w = {p, " + expr + "};");
        in(number, "w = {" + expr + ", w, w};");
        in(number, "w = {p, " + expr + ", w, w};");
        in(number, "q = f[" + expr + "];");
        in(number, "q = p << (" + expr + ");");
        in(number, "q = sra(p, " + expr + ");");
        in(number, "q = slt(p, " + expr + ") + p;");
        in(number, "q = sdiv(p, " + expr + ");");
        in(number, "p = p ? p : (" + expr + ");");
        in(number, "p = p ? (" + expr + ") : w;");
        in(number, "q = q ? w : (" + expr + ");");
        in(number, "if (" + expr + ") {}");
        in(number, "if p + (" + expr + ") {}");
        in(number, "q = (" + expr + ")[70:69];");
        in(number, "q = sx(" + expr + ", 1);");
        in(number, "let l = " + expr + "; q = l; w = l; q = l[70]; q = sx(l, 1);");
        in(number, "f[" + expr + "] = q;");
    }

    private static void lowAboveHigh() {
        CHECK.sentence("(but l above h)");
        // The part before is the first fault in any case; alone it is told at l.
        in(3, "q = p[3:`4];");
        in(3, "q = p[0:`1];");
        in(2, "q = `z[3:4];");
        in(3, "q = p[3:`4] + w[0:1];");
    }

    private static void knownChangesNothing() {
        CHECK.sentence("A let, register, FILE or op whose NAME was known changes nothing");
        // Seen by what a [ is: the first one counts.
        CHECK.fault("bits 8; reg p: 8; reg f: 8; file f: 8[4]; op o \"........\" { p = f[`p]; }", 1);
        CHECK.fault("bits 8; reg p: 8; file f: 8[4]; reg f: 8; op o \"........\" { p = f[0`]; }", 1);
        CHECK.fault("bits 8; reg p: 8; file f: 8[4]; op o \"........\" { let f = p; p = f[0`]; }", 1);
        // Seen by cells and THINGS: those of the second one are not counted.
        CHECK.fault("bits 8; reg p: 8; file f: 8[1]; file f: 8[65535]; file g: 8[65535]; op o \"........\" { p = g[0`]; }", 1);
        String many = things(63) + "reg r0: 8; reg r0: 8; file g: 8[4]; op o \"........\" { r0 = g[0`]; }";
        CHECK.fault(many, 1);
    }

    private static void tooMuchChangesNothing() {
        CHECK.sentence("nor does a register or FILE with a fault 6 (its cells aren't counted either)");
        CHECK.fault("bits 8; reg p: 8; file a: 8[60000]; file b: 8[60000]; op o \"........\" { p = b[`p]; }", 1);
        CHECK.fault("bits 8; reg p: 8; file a: 8[60000]; file b: 8[60000]; file c: 8[5536]; op o \"........\" { p = c[0`]; }", 1);
        CHECK.fault("bits 8; reg p: 8; file a: 8[60000]; file b: 8[60000]; file c: 8[5537]; op o \"........\" { p = c[`p]; }", 1);
        CHECK.fault(things(64) + "file z: 8[4]; op o \"........\" { r0 = z[`r0]; }", 1);
        CHECK.fault(things(64) + "file `z: 8[4]; op o \"........\" { r0 = z[0]; }", 6);
        // Its NAME is free for another one.
        CHECK.fault("bits 8; reg p: 8; file a: 8[60000]; file b: 8[60000]; file b: 8[4]; op o \"........\" { p = b[0`]; }", 1);
    }

    private static void knownAllTheSame() {
        CHECK.sentence("others with a fault are known all the same (without a WIDTH; cells of a FILE with a NUMBER out of range aren't counted).");
        for (String file : new String[] {"file f: 0[4];", "file f: 65[4];", "file f: 8[0];", "file f: 8[65537];", "file f: 0[0];"}) {
            CHECK.fault("bits 8; reg p: 8; " + file + " op o \"........\" { p = f[0`]; }", 1);
            CHECK.fault("bits 8; reg p: 8; " + file + " reg f: 8; op o \"........\" { p = f[0`]; }", 1);
        }
        CHECK.fault("bits 8; reg p: 8; file f: 65[65536]; file g: 8[65536]; op o \"........\" { p = g[0`]; }", 1);
        CHECK.fault("bits 8; reg p: 8; file f: 8[65537]; file g: 8[65536]; op o \"........\" { p = g[0`]; }", 1);
        // It counts as a THING.
        CHECK.fault(things(63) + "file f: 0[4]; file g: 8[4]; op o \"........\" { r0 = g[`r0]; }", 1);
        CHECK.fault(things(63) + "reg f: 0; file g: 8[4]; op o \"........\" { r0 = g[`r0]; }", 1);
        // FIELDS of an op with a fault hide a FILE.
        CHECK.fault("bits 8; reg p: 8; file f: 8[4]; op o \"ffff\" { p = f[`p]; }", 1);
        CHECK.fault("bits 8; reg p: 8; file f: 8[4]; op o \"0.......\" {} op o \"ffff....\" { p = f[`p]; }", 1);
        CHECK.fault("bits 8; reg r: `0; op o \"........\" { r = 8'1; }", 3);
        CHECK.fault("bits 8; op o `\"\" {} op o \"........\" {}", 5);
    }

    private static String op(String name, String code) {
        return "op " + name + " \"" + code + "\" {} ";
    }

    private static void notApart() {
        CHECK.sentence("(3) CODES: ops whose CODES are not apart (no place has 0 in one and 1 in the other): 7: "
                + "THE PLACE is the number of the first such op that is with one before it, OTHER the number of the first such one before it.");
        CHECK.fault("bits 8; " + op("a", "........") + op("b", "00000000"), 7, 1, 0);
        CHECK.fault("bits 8; " + op("a", "00000000") + op("b", "00000000"), 7, 1, 0);
        CHECK.fault("bits 8; " + op("a", "1......0") + op("b", "1.....0.") + op("c", "1....0.."), 7, 1, 0);
        CHECK.fault("bits 8; " + op("a", "0.......") + op("b", "1......0") + op("c", "1.....0."), 7, 2, 1);
        CHECK.fault("bits 8; " + op("a", "00......") + op("b", "01......") + op("c", "........"), 7, 2, 0);
        CHECK.fault("bits 8; " + op("a", "00......") + op("b", "01......") + op("c", ".1......") + op("d", ".0......"), 7, 2, 1);
        // One place that parts them is enough, the first as the last.
        for (int length : new int[] {8, 16, 32, 64}) {
            for (int at = 0; at < length; at++) {
                String before = ".".repeat(at);
                String behind = "a".repeat(length - 1 - at);
                CHECK.right("bits " + length + "; " + op("a", before + "0" + behind) + op("b", before + "1" + behind));
                CHECK.fault("bits " + length + "; " + op("a", before + "0" + behind) + op("b", before + "0" + behind), 7, 1, 0);
                CHECK.fault("bits " + length + "; " + op("a", before + "1" + behind) + op("b", before + "." + behind), 7, 1, 0);
            }
        }
        // The last two of 512.
        String many = ops(511);
        CHECK.fault(many + op("z", "0000000111111110"), 7, 511, 510);
        CHECK.fault(many + op("z", "0000000.11111110"), 7, 511, 254);
        CHECK.fault(many + op("z", "................"), 7, 511, 0);
        CHECK.right(many + op("z", "0000000111111111"));
    }

    private static void buildEmpties() {
        CHECK.sentence("INPUT is read as a TEXT, and empty then (also with a FAULT)");
        MachineLoom loom = new MachineLoom();
        Check.build(loom, "bits 16;");
        CHECK.due("count(0)", loom.count(0), 0);
        String[] wrongs = {"$", "bits", "bits 9;", "bits 8; op a \"........\" {} op b \"........\" {}"};
        for (String wrong : wrongs) {
            CHECK.thrown(wrong, IllegalStateException.class, () -> Check.build(loom, wrong));
            CHECK.due("count(0)", loom.count(0), 0);
            CHECK.thrown("end(1)", IllegalArgumentException.class, () -> loom.end(1));
            // Nothing of it stands before the next one.
            CHECK.due("build", Check.build(loom, "bits 16;"), 0);
        }
        CHECK.thrown("an empty one", IllegalStateException.class, loom::build);
        CHECK.due("fault(0)", loom.fault(0), 1);
        CHECK.due("fault(1)", loom.fault(1), 0);
        nothingLeft();
    }

    /** Wherever a TEXT with a FAULT ends, the next one begins anew: NAMES, FIELDS, lets, cells, what is begun of an EXPR. */
    private static void nothingLeft() {
        String whole = "bits 16; reg p: 8; file f: 8[65536]; fetch p from f; op o \"00aabbccddeeffgg\" { let l = p; if p == 8'1 { let k = l; p = k + (l * {a, b, c, d[1:0]}[7:0]"
                + " ? sdiv(l, k) : -~p); f[zx(a, 8) | slt(p, p) + (p << sx(b, 64))] = p; } else if (p) { trap 5; } } z";
        String next = "bits 8; file a: 8[65535]; file p: 64[1]; reg l: 8; reg k: 8; op o \"000ooooo\" { k = l + (k * {o, o[2:0]}); } reg f: 8; fetch f from a; op u \"1.......\" { trap 9; }";
        MachineLoom loom = new MachineLoom();
        for (int turn = 0; turn < 3; turn++) {
            for (int length = 0; length <= whole.length(); length++) {
                String text = whole.substring(0, length) + (turn == 0 ? "" : turn == 1 ? "$" : ";;");
                try {
                    Check.build(loom, text);
                } catch (IllegalStateException e) {
                    // That it has a FAULT is not what is looked at here.
                }
                CHECK.due("build", Check.build(loom, next), 2);
                loom.poke(2, 0, 3);
                loom.poke(3, 0, 5);
                CHECK.due("step", loom.step(2), 0);
                CHECK.due("k", loom.peek(3, 0), 3 + 5 * 18);
                CHECK.due("f", loom.peek(4, 0), 1);
                CHECK.due("trap", loom.step(128), 9);
                CHECK.due("THINGS", loom.count(2), 5);
                CHECK.due("cells", loom.count(3), 65536);
            }
        }
    }

    private static void buildRefused() {
        CHECK.sentence("A FAULT: IllegalStateException; THE MACHINE stays.");
        MachineLoom loom = Check.of("bits 8; reg p: 8; file f: 8[4]; fetch p from f; op o \"0000aaaa\" { f[a] = 8'9; }");
        loom.step(2);
        loom.step(9);
        String[] wrongs = {"", "$", "bits 16; reg r: 65;", "bits 16; reg r: 8; file r: 8[4];", "bits 16; op o \"........\" {}",
            "bits 8; op a \"........\" {} op b \"........\" {}", "bits 16; reg r: 8; op o \"................\" { r = 9'1; }", ops(513)};
        for (String wrong : wrongs) {
            CHECK.thrown(wrong, IllegalStateException.class, () -> Check.build(loom, wrong));
            CHECK.due("LENGTH", loom.count(1), 8);
            CHECK.due("THINGS", loom.count(2), 2);
            CHECK.due("cells", loom.count(3), 4);
            CHECK.due("ops", loom.count(4), 1);
            CHECK.due("STEPS", loom.count(5), 1);
            CHECK.due("TRAPS", loom.count(6), 1);
            CHECK.due("p", loom.peek(0, 0), 1);
            CHECK.due("f[2]", loom.peek(1, 2), 9);
            CHECK.due("trap", loom.trap(), -3);
            CHECK.due("free", loom.free(), 240);
            CHECK.due("decode", loom.decode(15), 0);
        }
        CHECK.due("it goes on", loom.run(1), 1);
        CHECK.due("p", loom.peek(0, 0), 2);
        // The first one stays, too, and the shipped one.
        MachineLoom fresh = new MachineLoom();
        CHECK.thrown("the first one", IllegalStateException.class, () -> Check.build(fresh, "bits 16"));
        CHECK.due("LENGTH", fresh.count(1), 8);
        fresh.ship();
        CHECK.thrown("the shipped one", IllegalStateException.class, () -> Check.build(fresh, "bits 16"));
        CHECK.due("LENGTH", fresh.count(1), 32);
        CHECK.due("ops", fresh.count(4), 48);
    }

    private static void buildAnswers() {
        CHECK.sentence("THE MACHINE is what it tells, all VALUES 0.");
        String text = "bits 8; reg p: 64; file f: 64[65536]; op o \"........\" { p = ~p; f[8'0] = p; }";
        MachineLoom loom = Check.of(text);
        for (int turn = 0; turn < 3; turn++) {
            loom.poke(0, 0, -1);
            loom.poke(1, 0, -1);
            loom.poke(1, 65535, -1);
            loom.step(0);
            Check.build(loom, text);
            CHECK.due("p", loom.peek(0, 0), 0);
            CHECK.due("the first cell", loom.peek(1, 0), 0);
            CHECK.due("the last cell", loom.peek(1, 65535), 0);
        }
        loom.poke(1, 65535, -1);
        Check.build(loom, "bits 8; reg p: 8;");
        Check.build(loom, text);
        CHECK.due("behind a small one", loom.peek(1, 65535), 0);
        CHECK.sentence("Answers how many ops.");
        for (int n : new int[] {0, 1, 2, 255, 256, 511, 512}) {
            CHECK.due(n + " ops", Check.build(loom, ops(n)), n);
        }
    }

    private static void faultTells() {
        CHECK.sentence("Of the latest FAULT: its number (SYNTAX is 1; what 0), THE PLACE (1), OTHER of a 7, else -1 (2); 0, -1, -1 before the first");
        MachineLoom loom = new MachineLoom();
        told(loom, 0, -1, -1);
        String[] texts = {"", "bits 8; reg p: 8; reg p: 8;", "bits 9;", "bits 8; op o \"........\" { if 2'1 {} }", "bits 8; op o \"\" {}",
            "bits 8; file a: 8[65536]; file b: 8[1];", "bits 8; op a \"........\" {} op b \"........\" {}", "bits"};
        int[][] due = {{1, 0, -1}, {2, 22, -1}, {3, 5, -1}, {4, 26, -1}, {5, 13, -1}, {6, 31, -1}, {7, 1, 0}, {1, 4, -1}};
        for (int i = 0; i < texts.length; i++) {
            String text = texts[i];
            CHECK.thrown(text, IllegalStateException.class, () -> Check.build(loom, text));
            told(loom, due[i][0], due[i][1], due[i][2]);
        }
    }

    private static void told(MachineLoom loom, int number, int place, int other) {
        CHECK.due("fault(0)", loom.fault(0), number);
        CHECK.due("fault(1)", loom.fault(1), place);
        CHECK.due("fault(2)", loom.fault(2), other);
    }

    private static void faultStays() {
        CHECK.sentence("a TEXT without FAULTS does not change it.");
        MachineLoom loom = new MachineLoom();
        Check.build(loom, "bits 8;");
        told(loom, 0, -1, -1);
        loom.ship();
        told(loom, 0, -1, -1);
        CHECK.thrown("7", IllegalStateException.class, () -> Check.build(loom, "bits 8; op a \"0.......\" {} op b \"1......0\" {} op c \"1.......\" {}"));
        told(loom, 7, 2, 1);
        Check.build(loom, "bits 8; reg p: 8; op a \"0.......\" { trap 1; }");
        told(loom, 7, 2, 1);
        loom.step(0);
        loom.step(128);
        loom.ship();
        told(loom, 7, 2, 1);
    }

    private static void faultBad() {
        CHECK.sentence("Another what: bad.");
        MachineLoom loom = new MachineLoom();
        for (int turn = 0; turn < 2; turn++) {
            for (int what : new int[] {-1, 3, 4, 256, -256, Integer.MIN_VALUE, Integer.MAX_VALUE}) {
                CHECK.thrown("fault(" + what + ")", IllegalArgumentException.class, () -> loom.fault(what));
            }
            told(loom, turn, -1 + turn, -1);
            if (turn == 0) {
                CHECK.thrown("build", IllegalStateException.class, loom::build);
            }
        }
    }
}
