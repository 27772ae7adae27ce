/** Boundary cases of THE MACHINE, of a STEP and of RUNNING, and of promises 11 to 13: a test for each sentence. */
public final class MachineBoundsTest {
    private static final Check CHECK = new Check();

    public static void main(String[] args) {
        firstMachine();
        order();
        wordsOfOps();
        noOps();
        indexes();
        traps();
        undone();
        indexFirst();
        goesOn();
        wrapsAround();
        words();
        notAllThere();
        steps();
        runs();
        runBad();
        runAnswers();
        latestTrap();
        CHECK.finish();
    }

    private static void firstMachine() {
        CHECK.sentence("at first one with LENGTH 8 and nothing else.");
        MachineLoom loom = new MachineLoom();
        int[] due = {0, 8, 0, 0, 0, 0, 0, 0};
        for (int what = 0; what < due.length; what++) {
            CHECK.due("count(" + what + ")", loom.count(what), due[what]);
        }
        CHECK.due("free", loom.free(), 256);
        CHECK.due("decode", loom.decode(0), -1);
        CHECK.due("decode", loom.decode(255), -1);
        CHECK.due("step", loom.step(0), -2);
        CHECK.due("TRAPS", loom.count(6), 1);
        CHECK.thrown("run", IllegalStateException.class, () -> loom.run(1));
        CHECK.thrown("peek", java.util.NoSuchElementException.class, () -> loom.peek(0, 0));
        CHECK.thrown("thing", java.util.NoSuchElementException.class, () -> loom.thing(0, 0));
        CHECK.thrown("field", java.util.NoSuchElementException.class, () -> loom.field(0, 'a', 0));
    }

    private static void order() {
        CHECK.sentence("THINGS: registers and FILES in order.");
        MachineLoom loom = Check.of("bits 8; file a: 1[3]; reg b: 2; op o \"........\" {} reg c: 3; file d: 4[5] zero; reg e: 5; file f: 8[1];");
        int[] widths = {1, 2, 3, 4, 5, 8};
        int[] cells = {3, 0, 0, 5, 0, 1};
        for (int t = 0; t < 6; t++) {
            CHECK.due("WIDTH of " + t, loom.thing(t, 0), widths[t]);
            CHECK.due("cells of " + t, loom.thing(t, 1), cells[t]);
            loom.poke(t, Math.max(0, cells[t] - 1), -1);
        }
        for (int t = 0; t < 6; t++) {
            for (int i = 0; i < Math.max(1, cells[t]); i++) {
                boolean last = i == Math.max(0, cells[t] - 1);
                CHECK.due("no THING is in another", loom.peek(t, i), last ? (1 << widths[t]) - 1 : 0);
            }
        }
    }

    private static void wordsOfOps() {
        CHECK.sentence("A WORD (LENGTH bits) is an op's if all signs 0 and 1 of its CODE are so in it (the first sign is the highest bit).");
        for (int length : new int[] {8, 16, 32, 64}) {
            String code = "1" + "0".repeat(length - 2) + "1";
            MachineLoom loom = Check.of("bits " + length + "; op o \"" + code + "\" {}");
            long word = 1L << length - 1 | 1;
            CHECK.due("decode", loom.decode(word), 0);
            for (int bit = 0; bit < length; bit++) {
                CHECK.due("one bit changed", loom.decode(word ^ 1L << bit), -1);
            }
            for (int bit = length; bit < 64; bit++) {
                CHECK.due("a bit above", loom.decode(word ^ 1L << bit), 0);
            }
            MachineLoom any = Check.of("bits " + length + "; op o \"" + ".a".repeat(length / 2) + "\" {}");
            CHECK.due("no sign 0 or 1", any.decode(0), 0);
            CHECK.due("no sign 0 or 1", any.decode(-1), 0);
            for (int at = 0; at < length; at++) {
                MachineLoom one = Check.of("bits " + length + "; op o \"" + ".".repeat(at) + "1" + ".".repeat(length - 1 - at) + "\" {}");
                long bit = 1L << length - 1 - at;
                CHECK.due("its bit alone", one.decode(bit), 0);
                CHECK.due("all but its bit", one.decode(~bit), -1);
            }
        }
    }

    private static void noOps() {
        CHECK.sentence("A STEP with a WORD: TRAP -2 if it's no op's");
        MachineLoom loom = Check.of("bits 8; reg pc: 8; file m: 8[4]; fetch pc from m; op o \"0000000.\" {}");
        CHECK.due("the last one", loom.step(1), 0);
        CHECK.due("the one behind it", loom.step(2), -2);
        CHECK.due("trap", loom.trap(), -2);
        CHECK.due("pc stays", loom.peek(0, 0), 1);
        CHECK.due("STEPS", loom.count(5), 1);
        CHECK.due("TRAPS", loom.count(6), 1);
        loom.poke(1, 1, 2);
        CHECK.due("run", loom.run(5), 0);
        CHECK.due("trap", loom.trap(), -2);
        CHECK.due("TRAPS", loom.count(6), 2);
    }

    private static void indexes() {
        CHECK.sentence("an index that isn't below the number of cells, in an EXPR or assigned to: TRAP -3");
        for (int cells : new int[] {1, 2, 3, 4, 255, 256, 257, 65535, 65536}) {
            MachineLoom loom = Check.of("bits 8; reg i: 64; reg r: 8; file f: 8[" + cells + "];"
                    + "op o \"00000000\" { r = f[i]; } op u \"00000001\" { f[i] = 8'5; }");
            for (long index : new long[] {cells, cells + 1, 65536, 1L << 31, 1L << 32, (1L << 32) + cells - 1, Long.MAX_VALUE, Long.MIN_VALUE, -1}) {
                loom.poke(0, 0, index);
                CHECK.due("in an EXPR at " + index, loom.step(0), -3);
                CHECK.due("assigned to at " + index, loom.step(1), -3);
            }
            loom.poke(0, 0, cells - 1);
            CHECK.due("assigned to at the last one", loom.step(1), 0);
            CHECK.due("in an EXPR at the last one", loom.step(0), 0);
            CHECK.due("r", loom.peek(1, 0), 5);
            loom.poke(0, 0, 0);
            CHECK.due("at 0", loom.step(0), 0);
            CHECK.due("r", loom.peek(1, 0), cells == 1 ? 5 : 0);
        }
        // In an if, in an index, in a let; and not where it's not come to.
        String head = "bits 8; reg p: 8; file f: 8[4]; op o \"........\" { ";
        CHECK.due("in an if", Check.of(head + "if f[8'4] == 8'0 {} }").step(0), -3);
        CHECK.due("in an index", Check.of(head + "f[f[8'4]] = 8'0; }").step(0), -3);
        CHECK.due("in a let", Check.of(head + "let l = f[8'4]; }").step(0), -3);
        CHECK.due("not come to", Check.of(head + "if 1'0 { p = f[8'4]; } else { p = f[8'3]; } }").step(0), 0);
        // In 8 bits 256 is 0: what counts is the VALUE of the EXPR.
        CHECK.due("cut before", Check.of(head + "p = f[8'255 + 8'1]; }").step(0), 0);
    }

    private static void traps() {
        CHECK.sentence("trap n: TRAP n; these end the STEP");
        MachineLoom loom = Check.of("bits 8; reg p: 8; file f: 8[4]; op o \"000000aa\" { p = 8'1; if a == 2'0 { trap 1; } if a == 2'1 { trap 1000000; }"
                + " if a == 2'2 { f[8'9] = 8'1; trap 4; } trap 2; trap 3; }");
        int[] due = {1, 1000000, -3, 2};
        for (int word = 0; word < 4; word++) {
            CHECK.due("step", loom.step(word), due[word]);
            CHECK.due("trap", loom.trap(), due[word]);
            CHECK.due("p", loom.peek(0, 0), 0);
        }
        CHECK.due("STEPS", loom.count(5), 0);
        CHECK.due("TRAPS", loom.count(6), 4);
    }

    private static void undone() {
        CHECK.sentence("and all it did is undone.");
        MachineLoom loom = Check.of("bits 8; reg pc: 8; reg w: 64; file f: 64[3] zero; file m: 8[4]; fetch pc from m;"
                + " op o \"000000aa\" { w = 64'1; w = w + 64'1; f[8'0] = 64'7; f[8'1] = w; f[8'1] = 64'9; f[w] = f[8'1]; pc = 8'2; m[8'3] = 8'4;"
                + " if a == 2'1 { trap 5; } if a == 2'2 { f[8'3] = 64'1; } if a == 2'3 { w = f[64'0xffffffffffffffff]; } }");
        long[] before = {3, -1, 0, Long.MIN_VALUE, -2, 1, 2, 3, 4};
        int[][] where = {{0, 0}, {1, 0}, {2, 0}, {2, 1}, {2, 2}, {3, 0}, {3, 1}, {3, 2}, {3, 3}};
        for (int word = 1; word < 4; word++) {
            for (int i = 0; i < where.length; i++) {
                loom.poke(where[i][0], where[i][1], before[i]);
            }
            CHECK.due("step", loom.step(word), word == 1 ? 5 : -3);
            for (int i = 0; i < where.length; i++) {
                CHECK.due("THING " + where[i][0] + " at " + where[i][1], loom.peek(where[i][0], where[i][1]), before[i]);
            }
        }
        CHECK.due("without a TRAP it's done", loom.step(0), 0);
        long[] behind = {2, 2, 0, 9, 9, 1, 2, 3, 4};
        for (int i = 0; i < where.length; i++) {
            CHECK.due("THING " + where[i][0] + " at " + where[i][1], loom.peek(where[i][0], where[i][1]), behind[i]);
        }
        // Also what was begun of an EXPR, however often.
        MachineLoom often = Check.of("bits 8; reg p: 8; file f: 8[4]; op o \"0.......\" { p = p + 8'1; p = p + (p + (p + (p + (p + {f[8'9]})))); } op u \"1.......\" { p = p + (p + 8'1); }");
        for (int turn = 0; turn < 600; turn++) {
            CHECK.due("step", often.step(0), -3);
        }
        CHECK.due("p", often.peek(0, 0), 0);
        CHECK.due("step", often.step(128), 0);
        CHECK.due("p", often.peek(0, 0), 1);
        // What the STEPS before did is not.
        MachineLoom run = Check.of("bits 8; reg pc: 8; reg n: 8; file m: 8[4]; fetch pc from m; op o \"00000000\" { n = n + 8'1; } op t \"00000001\" { n = 8'99; trap 1; }");
        run.poke(2, 3, 1);
        CHECK.due("run", run.run(10), 3);
        CHECK.due("n", run.peek(1, 0), 3);
        CHECK.due("pc", run.peek(0, 0), 3);
    }

    private static void indexFirst() {
        CHECK.sentence("An assignment's index is worked out before its EXPR.");
        MachineLoom loom = Check.of("bits 8; reg p: 8; file f: 8[4]; op o \"000000aa\" { if a == 2'0 { f[p] = f[8'4]; } if a == 2'1 { f[8'4] = f[p]; } if a == 2'2 { f[f[p]] = f[p] + 8'1; } }");
        CHECK.due("EXPR outside", loom.step(0), -3);
        CHECK.due("index outside", loom.step(1), -3);
        loom.poke(1, 0, 2);
        CHECK.due("both inside", loom.step(2), 0);
        CHECK.due("f[2]", loom.peek(1, 2), 3);
        CHECK.due("f[0]", loom.peek(1, 0), 2);
    }

    private static void goesOn() {
        CHECK.sentence("If the STEP isn't over by a TRAP, and there's a fetch whose register was not assigned in it, that becomes LENGTH / 8 more.");
        for (int length : new int[] {8, 16, 32, 64}) {
            String rest = ".".repeat(length - 3);
            MachineLoom loom = Check.of("bits " + length + "; reg pc: 16; reg r: 8; file m: 8[8]; fetch pc from m; op a \"000" + rest + "\" {} op b \"001" + rest
                    + "\" { pc = pc; } op c \"010" + rest + "\" { if r == 8'1 { pc = 16'100; } } op d \"011" + rest + "\" { trap 1; } op e \"100" + rest
                    + "\" { r = 8'1; let l = pc; } op f \"101" + rest + "\" { pc = 16'7; pc = 16'9; }");
            int more = length / 8;
            long one = 1L << length - 3;
            CHECK.due("a", loom.step(0), 0);
            CHECK.due("nothing assigned", loom.peek(0, 0), more);
            loom.step(one);
            CHECK.due("assigned what it has", loom.peek(0, 0), more);
            loom.step(2 * one);
            CHECK.due("an assignment that's not come to", loom.peek(0, 0), 2 * more);
            loom.step(3 * one);
            CHECK.due("a TRAP", loom.peek(0, 0), 2 * more);
            loom.step(4 * one);
            CHECK.due("another register assigned", loom.peek(0, 0), 3 * more);
            loom.step(2 * one);
            CHECK.due("an assignment that's come to", loom.peek(0, 0), 100);
            loom.step(5 * one);
            CHECK.due("twice", loom.peek(0, 0), 9);
            loom.step(0);
            CHECK.due("nothing assigned in this one", loom.peek(0, 0), 9 + more);
        }
        MachineLoom none = Check.of("bits 8; reg pc: 8; file m: 8[4]; op o \"........\" {}");
        none.step(0);
        CHECK.due("no fetch", none.peek(0, 0), 0);
    }

    private static void wrapsAround() {
        CHECK.sentence("Results are cut to their WIDTH.");
        for (int width = 1; width <= 64; width++) {
            for (int length : new int[] {8, 16, 32, 64}) {
                MachineLoom loom = Check.of("bits " + length + "; reg pc: " + width + "; file m: 8[8]; fetch pc from m; op o \"" + ".".repeat(length) + "\" {}");
                long most = width == 64 ? -1 : (1L << width) - 1;
                loom.poke(0, 0, -1);
                loom.step(0);
                CHECK.due("the greatest one, " + length / 8 + " more in " + width + " bits", loom.peek(0, 0), length / 8 - 1 & most);
            }
        }
    }

    private static void words() {
        CHECK.sentence("RUNNING a STEP: the WORD is the LENGTH / 8 cells from the index that the fetch's register has on, the first one lowest");
        for (int bytes = 1; bytes <= 8; bytes *= 2) {
            int length = 8 * bytes;
            MachineLoom loom = Check.of("bits " + length + "; reg r: " + length + "; file m: 8[65536]; reg pc: 17; fetch pc from m; op o \""
                    + "a".repeat(length) + "\" { r = a; }");
            for (int at : new int[] {0, 1, 3, 255, 256, 65536 - bytes}) {
                long word = 0;
                for (int i = bytes - 1; i >= 0; i--) {
                    int b = 0x81 + 0x13 * i + at & 255;
                    loom.poke(1, at + i, b);
                    word = word << 8 | b;
                }
                loom.poke(2, 0, at);
                CHECK.due("run", loom.run(1), 1);
                CHECK.due("the WORD at " + at, loom.peek(0, 0), word);
                CHECK.due("pc", loom.peek(2, 0), at + bytes);
            }
        }
    }

    private static void notAllThere() {
        CHECK.sentence("if they aren't all there: TRAP -1.");
        for (int bytes = 1; bytes <= 8; bytes *= 2) {
            int length = 8 * bytes;
            for (int cells = 1; cells <= 20; cells++) {
                MachineLoom loom = Check.of("bits " + length + "; reg pc: 64; file m: 8[" + cells + "]; fetch pc from m; op o \"" + ".".repeat(length) + "\" {}");
                int traps = 0;
                for (int at = 0; at <= cells + 1; at++) {
                    loom.poke(0, 0, at);
                    boolean there = at + bytes <= cells;
                    CHECK.due("run at " + at + " of " + cells, loom.run(1), there ? 1 : 0);
                    CHECK.due("trap", loom.trap(), there ? 0 : -1);
                    CHECK.due("pc", loom.peek(0, 0), there ? at + bytes : at);
                    traps += there ? 0 : 1;
                }
                for (long far : new long[] {-1, -bytes, Long.MIN_VALUE, Long.MAX_VALUE, 1L << 32, 1L << 31, (1L << 31) - 1, (1L << 32) - bytes, -9}) {
                    loom.poke(0, 0, far);
                    CHECK.due("run at " + far, loom.run(1), 0);
                    CHECK.due("trap", loom.trap(), -1);
                    CHECK.due("pc", loom.peek(0, 0), far);
                    traps++;
                }
                CHECK.due("TRAPS", loom.count(6), traps);
            }
        }
        // The FILE may be the first THING as well.
        MachineLoom first = Check.of("bits 8; file m: 8[3]; reg pc: 8; fetch pc from m; op o \"........\" {}");
        CHECK.due("run", first.run(500), 3);
        CHECK.due("trap", first.trap(), -1);
        CHECK.due("pc", first.peek(1, 0), 3);
        // A WORD given by step is no matter of cells.
        MachineLoom loom = Check.of("bits 64; reg pc: 64; file m: 8[1]; fetch pc from m; op o \"" + ".".repeat(64) + "\" {}");
        CHECK.due("step", loom.step(0), 0);
        CHECK.due("pc", loom.peek(0, 0), 8);
    }

    private static void steps() {
        CHECK.sentence("A STEP with that WORD. Answers its TRAP, or 0.");
        MachineLoom loom = Check.of("bits 8; file f: 8[1]; op a \"00......\" {} op b \"01......\" { trap 77; } op c \"10......\" { f[8'1] = 8'1; }");
        int[] due = {0, 77, -3, -2};
        for (int word = 0; word < 4; word++) {
            CHECK.due("step", loom.step(word << 6), due[word]);
            CHECK.due("step", loom.step(word << 6 | 63), due[word]);
        }
    }

    private static MachineLoom looping() {
        return Check.of("bits 8; reg pc: 8; reg n: 16; file m: 8[4]; fetch pc from m; op o \"00000000\" { n = n + 16'1; pc = 8'0; } op t \"00000001\" { trap 9; } op s \"00000010\" { n = n + 16'1; }");
    }

    private static void runs() {
        CHECK.sentence("RUNS up to n STEPS (1 .. 500), up to the first TRAP.");
        for (int n : new int[] {1, 2, 10, 499, 500}) {
            MachineLoom loom = looping();
            CHECK.due("run(" + n + ")", loom.run(n), n);
            CHECK.due("n", loom.peek(1, 0), n);
            CHECK.due("STEPS", loom.count(5), n);
            CHECK.due("TRAPS", loom.count(6), 0);
            CHECK.due("trap", loom.trap(), 0);
        }
        MachineLoom loom = looping();
        loom.poke(2, 0, 2);
        loom.poke(2, 1, 2);
        loom.poke(2, 2, 1);
        CHECK.due("just before the TRAP", loom.run(2), 2);
        CHECK.due("trap", loom.trap(), 0);
        CHECK.due("TRAPS", loom.count(6), 0);
        CHECK.due("on the TRAP", loom.run(1), 0);
        CHECK.due("trap", loom.trap(), 9);
        CHECK.due("TRAPS", loom.count(6), 1);
        CHECK.due("again", loom.run(500), 0);
        CHECK.due("just one each", loom.count(6), 2);
        CHECK.due("STEPS", loom.count(5), 2);
        loom.poke(0, 0, 0);
        CHECK.due("with the TRAP", loom.run(3), 2);
        CHECK.due("trap", loom.trap(), 9);
        CHECK.due("n", loom.peek(1, 0), 4);
    }

    private static void runBad() {
        CHECK.sentence("Another n: bad, before; no fetch is told: IllegalStateException.");
        MachineLoom loom = looping();
        MachineLoom none = Check.of("bits 8; reg pc: 8; file m: 8[4]; op o \"........\" { trap 3; }");
        loom.step(1);
        none.step(0);
        for (int n : new int[] {0, -1, 501, 502, 1000, 65537, Integer.MIN_VALUE, Integer.MAX_VALUE}) {
            CHECK.thrown("run(" + n + ")", IllegalArgumentException.class, () -> loom.run(n));
            CHECK.thrown("run(" + n + ") without fetch", IllegalArgumentException.class, () -> none.run(n));
        }
        for (int n : new int[] {1, 2, 499, 500}) {
            CHECK.thrown("run(" + n + ") without fetch", IllegalStateException.class, () -> none.run(n));
        }
        CHECK.due("a refused call changes nothing", loom.trap(), 9);
        CHECK.due("a refused call changes nothing", loom.peek(1, 0), 0);
        CHECK.due("a refused call changes nothing", loom.count(5), 0);
        CHECK.due("a refused call changes nothing", loom.count(6), 1);
        CHECK.due("a refused call changes nothing", none.trap(), 3);
        CHECK.due("a refused call changes nothing", none.count(5), 0);
        CHECK.due("a refused call changes nothing", none.count(6), 1);
        // Where a machine had one and the next has none.
        Check.build(loom, "bits 8; reg pc: 8; file m: 8[4];");
        CHECK.thrown("run", IllegalStateException.class, () -> loom.run(1));
        CHECK.thrown("run of a new object", IllegalStateException.class, () -> new MachineLoom().run(500));
    }

    private static void runAnswers() {
        CHECK.sentence("Answers how many were done without.");
        for (int at = 0; at <= 4; at++) {
            MachineLoom loom = looping();
            for (int i = 0; i < 4; i++) {
                loom.poke(2, i, i == at ? 1 : 2);
            }
            CHECK.due("a TRAP at " + at, loom.run(500), at);
            CHECK.due("trap", loom.trap(), at == 4 ? -1 : 9);
            CHECK.due("STEPS", loom.count(5), at);
            CHECK.due("TRAPS", loom.count(6), 1);
        }
    }

    private static void latestTrap() {
        CHECK.sentence("The TRAP of the latest step or run, 0 if there was none (build and ship do not change it).");
        MachineLoom loom = new MachineLoom();
        CHECK.due("before any", loom.trap(), 0);
        loom.step(0);
        CHECK.due("behind step", loom.trap(), -2);
        Check.build(loom, "bits 8; reg pc: 8; file m: 8[4]; fetch pc from m; op o \"00000000\" {} op t \"00000001\" { trap 9; }");
        CHECK.due("behind build", loom.trap(), -2);
        loom.ship();
        CHECK.due("behind ship", loom.trap(), -2);
        CHECK.thrown("build", IllegalStateException.class, loom::build);
        CHECK.due("behind a FAULT", loom.trap(), -2);
        Check.build(loom, "bits 8; reg pc: 8; file m: 8[4]; fetch pc from m; op o \"00000000\" {} op t \"00000001\" { trap 9; }");
        loom.decode(1);
        loom.poke(0, 0, 3);
        CHECK.due("behind decode and poke", loom.trap(), -2);
        CHECK.due("run", loom.run(1), 1);
        CHECK.due("behind a run without", loom.trap(), 0);
        CHECK.due("run", loom.run(1), 0);
        CHECK.due("behind a run with", loom.trap(), -1);
        loom.step(0);
        CHECK.due("behind a step without", loom.trap(), 0);
        loom.step(1);
        CHECK.due("behind a step with", loom.trap(), 9);
    }
}
