/** Promises 4, 6: build makes THE MACHINE new, or leaves it; fault tells of the latest FAULT. */
public final class BuildTest {
    private static final Check CHECK = new Check();

    public static void main(String[] args) {
        builds();
        machineStays();
        faultStays();
        turns();
        sameTextTwice();
        decodesAnew();
        CHECK.finish();
    }

    private static void builds() {
        MachineLoom loom = new MachineLoom();
        CHECK.due("no op", Check.build(loom, "bits 64;"), 0);
        CHECK.due("LENGTH", loom.count(1), 64);
        CHECK.due("three ops", Check.build(loom, "bits 8; op a \"00......\" {} op b \"01......\" {} op c \"1.......\" {}"), 3);
        CHECK.due("INPUT", loom.count(0), 0);
        CHECK.due("LENGTH", loom.count(1), 8);
        CHECK.thrown("nothing is fed", IllegalStateException.class, loom::build);
        CHECK.due("SYNTAX", loom.fault(0), 1);
        CHECK.due("at the end", loom.fault(1), 0);
    }

    private static void machineStays() {
        MachineLoom loom = Check.of("bits 8; reg p: 8; file f: 8[4]; op o \"0000aaaa\" { p = zx(a, 8); f[a] = p; } op t \"1111....\" { trap 9; }");
        loom.step(3);
        loom.step(0xf0);
        String[] wrongs = {"", "bits", "bits 8; reg q: 9; op u \"\" {}", "bits 16; reg q: 99;",
            "bits 8; op a \"........\" {} op b \"........\" {}", "bits 32; reg a: 1; reg b: 1; reg c: 1; z"};
        for (String wrong : wrongs) {
            CHECK.thrown(wrong, IllegalStateException.class, () -> Check.build(loom, wrong));
            CHECK.due("INPUT", loom.count(0), 0);
            CHECK.due("LENGTH", loom.count(1), 8);
            CHECK.due("THINGS", loom.count(2), 2);
            CHECK.due("ops", loom.count(4), 2);
            CHECK.due("STEPS", loom.count(5), 1);
            CHECK.due("TRAPS", loom.count(6), 1);
            CHECK.due("p", loom.peek(0, 0), 3);
            CHECK.due("f[3]", loom.peek(1, 3), 3);
            CHECK.due("decode", loom.decode(0xf1), 1);
            CHECK.due("field", loom.field(0, 'a', 0xf5), 5);
            CHECK.due("trap", loom.trap(), 9);
            CHECK.due("free", loom.free(), 256 - 32);
        }
        CHECK.due("it still goes", loom.step(1), 0);
        CHECK.due("p", loom.peek(0, 0), 1);
        CHECK.due("STEPS", loom.count(5), 2);
        // The same text again: all VALUES 0, nothing counted, but the TRAP stays.
        loom.step(0xff);
        Check.build(loom, "bits 8; reg p: 8; file f: 8[4]; op o \"0000aaaa\" {}");
        CHECK.due("p", loom.peek(0, 0), 0);
        CHECK.due("f[1]", loom.peek(1, 1), 0);
        CHECK.due("f[3]", loom.peek(1, 3), 0);
        CHECK.due("STEPS", loom.count(5), 0);
        CHECK.due("TRAPS", loom.count(6), 0);
        CHECK.due("trap", loom.trap(), 9);
    }

    private static void faultStays() {
        MachineLoom loom = new MachineLoom();
        fault(loom, 0, -1, -1);
        Check.build(loom, "bits 8;");
        fault(loom, 0, -1, -1);
        CHECK.thrown("fault 7", IllegalStateException.class,
                () -> Check.build(loom, "bits 8; op a \"........\" {} op b \"........\" {}"));
        fault(loom, 7, 1, 0);
        Check.build(loom, "bits 8;");
        loom.ship();
        fault(loom, 7, 1, 0);
        CHECK.thrown("fault 3", IllegalStateException.class, () -> Check.build(loom, "bits 9;"));
        fault(loom, 3, 5, -1);
        CHECK.thrown("fault 1", IllegalStateException.class, () -> Check.build(loom, "bits 8"));
        fault(loom, 1, 6, -1);
        int[] others = {-1, 3, 4, Integer.MIN_VALUE, Integer.MAX_VALUE};
        for (int what : others) {
            CHECK.thrown("fault(" + what + ")", IllegalArgumentException.class, () -> loom.fault(what));
        }
        fault(loom, 1, 6, -1);
    }

    private static void fault(MachineLoom loom, int number, int place, int other) {
        CHECK.due("fault(0)", loom.fault(0), number);
        CHECK.due("fault(1)", loom.fault(1), place);
        CHECK.due("fault(2)", loom.fault(2), other);
    }

    /** Machine behind machine, with the shipped one and faults between them. */
    private static void turns() {
        MachineLoom loom = new MachineLoom();
        for (int i = 1; i <= 12; i++) {
            int width = i;
            Check.build(loom, "bits 8; reg p: " + width + "; op o \"........\" { p = ~p; }");
            if (i % 3 == 0) {
                loom.ship();
                CHECK.due("shipped", loom.count(4), 48);
                CHECK.due("pc", loom.peek(0, 0), 0);
                loom.step(0x13);
                CHECK.due("pc", loom.peek(0, 0), 4);
                continue;
            }
            CHECK.thrown("a fault", IllegalStateException.class,
                    () -> Check.build(loom, "bits 16; reg p: 64; reg q: 3; op o \"...............\" { p = 64'1; }"));
            loom.step(0);
            CHECK.due("WIDTH", loom.thing(0, 0), width);
            CHECK.due("p", loom.peek(0, 0), (1L << width) - 1);
        }
    }

    /** Nothing of a text is left in the next one: NAMES, FIELDS, lets, counts. */
    private static void sameTextTwice() {
        MachineLoom loom = new MachineLoom();
        String text = "bits 8; reg p: 8; file f: 8[60000]; fetch p from f; op o \"0000aaaa\" { let l = a; if l == a { let k = l; trap 3; } }";
        for (int i = 0; i < 3; i++) {
            CHECK.due("build", Check.build(loom, text), 1);
            CHECK.due("THINGS", loom.count(2), 2);
            CHECK.due("cells", loom.count(3), 60000);
            CHECK.due("fault(0)", loom.fault(0), 0);
        }
        CHECK.thrown("a fault in an op", IllegalStateException.class,
                () -> Check.build(loom, "bits 8; reg p: 8; file f: 8[60000]; op o \"0000aaaa\" { let l = a; if l == a { ;"));
        CHECK.due("build", Check.build(loom, text), 1);
        Check.build(loom, "bits 8; reg l: 8; reg a: 8; op k \"00000000\" { l = a; let o = l; }");
        CHECK.thrown("no fetch is left", IllegalStateException.class, () -> loom.run(1));
    }

    /** Machines of one object that decode in another way each. */
    private static void decodesAnew() {
        MachineLoom loom = new MachineLoom();
        String[][] codes = {{"1.......", "01......", "00......"}, {"0.......", "1......."}, {"11......", "0......1", "10......", "0......0"}};
        for (int turn = 0; turn < 12; turn++) {
            String[] some = codes[turn % 3];
            StringBuilder b = new StringBuilder("bits 8;");
            for (int op = 0; op < some.length; op++) {
                b.append("op o").append(op).append(" \"").append(some[op]).append("\"{}");
            }
            CHECK.due("build", Check.build(loom, b.toString()), some.length);
            for (int op = 0; op < some.length; op++) {
                int word = Integer.parseInt(some[op].replace('.', turn % 2 == 0 ? '0' : '1'), 2);
                CHECK.due("decode " + word, loom.decode(word), op);
            }
            CHECK.due("free", loom.free(), 0);
        }
        for (int turn = 0; turn < 4; turn++) {
            String more = turn < 2 ? " op b \"1bbbbbbb\" {}" : "";
            int ops = Check.build(loom, "bits 8; op a \"0aaaaaaa\" {}" + more);
            CHECK.due("a FIELD", loom.field(0, 'a', 3), 3);
            if (ops == 1) {
                CHECK.thrown("an op of an earlier machine", java.util.NoSuchElementException.class, () -> loom.field(1, 'b', 3));
                CHECK.due("an op of an earlier machine", loom.decode(128), -1);
            }
        }
        CHECK.due("count(7)", loom.count(7), 0);
    }
}
