/** Promises 11 to 13: step, run, trap. */
public final class StepTest {
    private static final Check CHECK = new Check();

    public static void main(String[] args) {
        order();
        branches();
        traps();
        undone();
        zeroCells();
        fetchInStep();
        runs();
        wordsFromCells();
        fetchFromFirst();
        ends();
        wideIndexes();
        manyAssignments();
        CHECK.finish();
    }

    private static void order() {
        MachineLoom loom = Check.of("bits 8; reg p: 8; reg q: 8; file f: 8[8]; op o \"........\" {"
                + " let l = p; p = q; q = l; f[p] = q; f[q] = f[p] + 8'1; let k = f[q]; f[k] = k; p = p + 8'1; p = p + 8'1; }");
        loom.poke(0, 0, 2);
        loom.poke(1, 0, 5);
        CHECK.due("step", loom.step(0), 0);
        CHECK.due("p", loom.peek(0, 0), 7);
        CHECK.due("q", loom.peek(1, 0), 2);
        CHECK.due("f[5]", loom.peek(2, 5), 2);
        CHECK.due("f[2]", loom.peek(2, 2), 3);
        CHECK.due("f[3]", loom.peek(2, 3), 3);
    }

    private static void branches() {
        MachineLoom loom = Check.of("bits 8; reg p: 8; reg n: 8; op o \"aaaaaaaa\" {"
                + " if a < 8'10 { p = 8'1; if a == 8'5 { p = 8'55; } } else if a < 8'20 { p = 8'2; }"
                + " else if a < 8'30 { p = 8'3; if a == 8'25 { p = 8'33; } else { n = n + 8'1; } } else { p = 8'4; }"
                + " if a == 8'40 { } else { n = n + 8'1; } if a == 8'41 { n = 8'0; } else { } }");
        int[][] due = {{0, 1, 1}, {5, 55, 2}, {15, 2, 3}, {25, 33, 4}, {26, 3, 6}, {30, 4, 7}, {40, 4, 7}, {41, 4, 0}, {255, 4, 1}};
        for (int[] d : due) {
            loom.step(d[0]);
            CHECK.due("p of " + d[0], loom.peek(0, 0), d[1]);
            CHECK.due("n of " + d[0], loom.peek(1, 0), d[2]);
        }
    }

    private static void traps() {
        MachineLoom loom = Check.of("bits 8; reg p: 8; file f: 8[4]; op a \"0000aaaa\" { p = f[a]; } op b \"0001aaaa\" { f[a] = 8'9; }"
                + " op c \"0010aaaa\" { if a == 4'1 { trap 1; } if a == 4'2 { trap 1000000; } trap 5; } op d \"0011aaaa\" { f[a] = f[4'9]; }");
        CHECK.due("before", loom.trap(), 0);
        CHECK.due("no op's", loom.step(0xf0), -2);
        CHECK.due("trap", loom.trap(), -2);
        CHECK.due("outside", loom.step(4), -3);
        CHECK.due("trap", loom.trap(), -3);
        CHECK.due("inside", loom.step(3), 0);
        CHECK.due("trap", loom.trap(), 0);
        CHECK.due("assigned outside", loom.step(0x14), -3);
        CHECK.due("assigned inside", loom.step(0x13), 0);
        CHECK.due("f[3]", loom.peek(1, 3), 9);
        CHECK.due("trap 1", loom.step(0x21), 1);
        CHECK.due("trap 1000000", loom.step(0x22), 1000000);
        CHECK.due("trap 5", loom.step(0x23), 5);
        CHECK.due("trap", loom.trap(), 5);
        CHECK.due("both outside", loom.step(0x3f), -3);
        CHECK.due("decode doesn't change it", loom.decode(0), 0);
        CHECK.due("trap", loom.trap(), -3);
        CHECK.thrown("run", IllegalStateException.class, () -> loom.run(1));
        CHECK.due("a refused one doesn't either", loom.trap(), -3);
        loom.ship();
        CHECK.due("nor ship", loom.trap(), -3);
        Check.build(loom, "bits 8;");
        CHECK.due("nor build", loom.trap(), -3);
        CHECK.due("the high bits of a WORD are none", Check.of("bits 8; op o \"00000000\" {}").step(0x100), 0);
    }

    private static void undone() {
        MachineLoom loom = Check.of("bits 8; reg pc: 8; reg p: 8; file f: 8[4]; file m: 8[8]; fetch pc from m; op o \"0000000a\" {"
                + " p = 8'1; p = 8'2; pc = 8'7; f[8'1] = 8'3; f[8'1] = 8'4; f[8'2] = p; m[8'0] = 8'5; if a { trap 6; } f[8'4] = 8'1; }");
        loom.poke(0, 0, 3);
        loom.poke(1, 0, 99);
        loom.poke(2, 1, 98);
        for (int word = 0; word < 2; word++) {
            CHECK.due("step", loom.step(word), word == 1 ? 6 : -3);
            CHECK.due("pc", loom.peek(0, 0), 3);
            CHECK.due("p", loom.peek(1, 0), 99);
            CHECK.due("f[1]", loom.peek(2, 1), 98);
            CHECK.due("f[2]", loom.peek(2, 2), 0);
            CHECK.due("m[0]", loom.peek(3, 0), 0);
        }
        CHECK.due("STEPS", loom.count(5), 0);
        CHECK.due("TRAPS", loom.count(6), 2);
    }

    private static void zeroCells() {
        MachineLoom loom = Check.of("bits 8; reg p: 8; file f: 8[4] zero; file g: 8[4]; op o \"aaaaaaaa\" { f[a] = 8'7; p = f[a]; g[a] = 8'8; }");
        loom.step(0);
        CHECK.due("f[0]", loom.peek(1, 0), 0);
        CHECK.due("p", loom.peek(0, 0), 0);
        CHECK.due("g[0]", loom.peek(2, 0), 8);
        loom.step(1);
        CHECK.due("f[1]", loom.peek(1, 1), 7);
        CHECK.due("p", loom.peek(0, 0), 7);
        CHECK.due("outside all the same", loom.step(4), -3);
    }

    /** In a step, too, the fetch's register goes on, if it isn't assigned. */
    private static void fetchInStep() {
        MachineLoom loom = Check.of("bits 16; reg pc: 3; file m: 8[4]; fetch pc from m; reg p: 8; op a \"00......aaaaaaaa\" { p = a; }"
                + " op b \"01.............." + "\" { pc = pc; } op c \"10..............\" { if p == 8'1 { pc = 3'0; } } op d \"11..............\" { trap 2; }");
        CHECK.due("a", loom.step(1), 0);
        CHECK.due("pc", loom.peek(0, 0), 2);
        loom.step(2);
        loom.step(2);
        CHECK.due("pc", loom.peek(0, 0), 6);
        loom.step(2);
        CHECK.due("cut to its WIDTH", loom.peek(0, 0), 0);
        loom.poke(0, 0, 7);
        loom.step(2);
        CHECK.due("cut to its WIDTH", loom.peek(0, 0), 1);
        loom.step(0x4000);
        CHECK.due("assigned what it had", loom.peek(0, 0), 1);
        loom.step(0x8000);
        CHECK.due("not assigned", loom.peek(0, 0), 3);
        loom.step(1);
        loom.step(0x8000);
        CHECK.due("assigned", loom.peek(0, 0), 0);
        loom.poke(0, 0, 5);
        loom.step(0xc000);
        CHECK.due("trap", loom.peek(0, 0), 5);
        // What was assigned in a STEP before doesn't count.
        loom.step(0x4000);
        loom.step(7);
        CHECK.due("pc", loom.peek(0, 0), 7);
    }

    private static MachineLoom counter() {
        return Check.of("bits 8; reg pc: 8; reg a: 16; file m: 8[16]; fetch pc from m;"
                + " op inc \"0000iiii\" { a = a + zx(i, 16); } op hop \"0001iiii\" { pc = zx(i, 8); } op out \"0010iiii\" { trap 4; } op far \"0011iiii\" { m[{4'1, i}] = 8'0; }");
    }

    private static void runs() {
        MachineLoom loom = counter();
        loom.poke(2, 0, 0x01);
        loom.poke(2, 1, 0x02);
        loom.poke(2, 2, 0x10);
        CHECK.due("run", loom.run(1), 1);
        CHECK.due("a", loom.peek(1, 0), 1);
        CHECK.due("pc", loom.peek(0, 0), 1);
        CHECK.due("trap", loom.trap(), 0);
        CHECK.due("run", loom.run(500), 500);
        CHECK.due("trap", loom.trap(), 0);
        CHECK.due("STEPS", loom.count(5), 501);
        CHECK.due("a", loom.peek(1, 0), 501);
        loom.poke(2, 2, 0x20);
        loom.poke(0, 0, 0);
        CHECK.due("up to the TRAP", loom.run(10), 2);
        CHECK.due("trap", loom.trap(), 4);
        CHECK.due("pc", loom.peek(0, 0), 2);
        CHECK.due("a", loom.peek(1, 0), 504);
        CHECK.due("TRAPS", loom.count(6), 1);
        CHECK.due("again", loom.run(10), 0);
        CHECK.due("TRAPS", loom.count(6), 2);
        CHECK.due("STEPS", loom.count(5), 503);
        loom.poke(2, 2, 0xff);
        CHECK.due("no op's", loom.run(1), 0);
        CHECK.due("trap", loom.trap(), -2);
        loom.poke(2, 2, 0x30);
        CHECK.due("outside", loom.run(1), 0);
        CHECK.due("trap", loom.trap(), -3);
        int[] others = {0, 501, -1, Integer.MIN_VALUE, Integer.MAX_VALUE};
        for (int n : others) {
            CHECK.thrown("run(" + n + ")", IllegalArgumentException.class, () -> loom.run(n));
        }
        CHECK.due("trap", loom.trap(), -3);
        MachineLoom none = Check.of("bits 8; reg pc: 8; file m: 8[16]; op o \"........\" {}");
        CHECK.thrown("n is looked at before", IllegalArgumentException.class, () -> none.run(0));
        CHECK.thrown("n is looked at before", IllegalArgumentException.class, () -> none.run(501));
        CHECK.thrown("no fetch", IllegalStateException.class, () -> none.run(1));
        CHECK.thrown("no fetch", IllegalStateException.class, () -> none.run(500));
        CHECK.due("nothing is changed", none.count(5) + none.count(6) + none.trap(), 0);
    }

    /** The first cell is the lowest byte, for every LENGTH. */
    private static void wordsFromCells() {
        for (int bytes = 1; bytes <= 8; bytes *= 2) {
            int length = 8 * bytes;
            MachineLoom loom = Check.of("bits " + length + "; reg pc: 8; file m: 8[40]; reg w: " + length
                    + "; fetch pc from m; op o \"" + "a".repeat(length) + "\" { w = a; }");
            long word = 0;
            for (int i = 0; i < bytes; i++) {
                loom.poke(1, 3 + i, 0xf1 + i);
                word |= (0xf1L + i) << 8 * i;
            }
            loom.poke(0, 0, 3);
            CHECK.due("run", loom.run(1), 1);
            CHECK.due("the WORD", loom.peek(2, 0), word);
            CHECK.due("pc", loom.peek(0, 0), 3 + bytes);
        }
    }

    /** The FILE and the register of a fetch may be any THINGS. */
    private static void fetchFromFirst() {
        MachineLoom loom = Check.of("bits 8; file m: 8[4]; reg a: 8; reg pc: 8; fetch pc from m; op o \"........\" { a = a; }");
        CHECK.due("run", loom.run(10), 4);
        CHECK.due("trap", loom.trap(), -1);
        CHECK.due("pc", loom.peek(2, 0), 4);
        CHECK.due("a", loom.peek(1, 0), 0);
    }

    private static void ends() {
        for (int bytes = 1; bytes <= 8; bytes *= 2) {
            int length = 8 * bytes;
            MachineLoom loom = Check.of("bits " + length + "; reg pc: 64; file m: 8[" + (20 + bytes) + "]; fetch pc from m; op o \""
                    + "a".repeat(length) + "\" { }");
            loom.poke(0, 0, 20);
            CHECK.due("the last WORD", loom.run(5), 1);
            CHECK.due("trap", loom.trap(), -1);
            CHECK.due("pc", loom.peek(0, 0), 20 + bytes);
            long[] outside = {21, 20 + bytes, 1000, 1L << 32, 1L << 31, Long.MAX_VALUE, Long.MIN_VALUE, -1, -8, -4};
            for (long pc : outside) {
                loom.poke(0, 0, pc);
                CHECK.due("run at " + pc, loom.run(1), 0);
                CHECK.due("trap at " + pc, loom.trap(), -1);
                CHECK.due("pc stays", loom.peek(0, 0), pc);
            }
            CHECK.due("STEPS", loom.count(5), 1);
            CHECK.due("TRAPS", loom.count(6), 11);
        }
        MachineLoom small = Check.of("bits 64; reg pc: 64; file m: 8[7]; fetch pc from m; op o \"" + "a".repeat(64) + "\" { }");
        CHECK.due("never all there", small.run(1), 0);
        CHECK.due("trap", small.trap(), -1);
    }

    private static void wideIndexes() {
        MachineLoom loom = Check.of("bits 8; reg p: 64; reg q: 8; file f: 8[65536]; op a \"0.......\" { q = f[p]; } op b \"1.......\" { f[p] = 8'7; }");
        long[] outside = {65536, 1L << 32, (1L << 32) + 5, Long.MIN_VALUE, -1};
        for (long index : outside) {
            loom.poke(0, 0, index);
            CHECK.due("read at " + index, loom.step(0), -3);
            CHECK.due("assign at " + index, loom.step(128), -3);
        }
        loom.poke(0, 0, 65535);
        CHECK.due("assign", loom.step(128), 0);
        CHECK.due("read", loom.step(0), 0);
        CHECK.due("q", loom.peek(1, 0), 7);
    }

    /** As many assignments as a text can have, undone and done. */
    private static void manyAssignments() {
        String text = "bits 8;reg p:1;op o\"a.......\"{" + "p=a;".repeat(8180) + "if a{trap 1;}}";
        MachineLoom loom = Check.of(text);
        loom.step(0);
        CHECK.due("p", loom.peek(0, 0), 0);
        CHECK.due("trap", loom.step(128), 1);
        CHECK.due("p", loom.peek(0, 0), 0);
        loom.poke(0, 0, 1);
        CHECK.due("done", loom.step(0), 0);
        CHECK.due("p", loom.peek(0, 0), 0);
    }
}
