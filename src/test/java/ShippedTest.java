import java.util.NoSuchElementException;
import java.util.Random;

/** Promise 5: ship, and the shipped machine against RV32IM written by hand. */
public final class ShippedTest {
    private static final Check CHECK = new Check();
    private static final int[] ODD = {0, 1, 2, -1, -2, 31, 32, 33, Integer.MIN_VALUE, Integer.MAX_VALUE, 0x80, 0x8000, 0xff, 4};

    public static void main(String[] args) {
        ships();
        decodesAll();
        fields();
        traps();
        steps(40, 400);
        factorial();
        CHECK.finish();
    }

    private static void ships() {
        MachineLoom loom = new MachineLoom();
        loom.feed(1, 2, 3, 4, 5);
        CHECK.due("ship", loom.ship(), 48);
        CHECK.due("INPUT stays", loom.count(0), 20);
        CHECK.due("no FAULT", loom.fault(0), 0);
        CHECK.due("LENGTH", loom.count(1), 32);
        CHECK.due("THINGS", loom.count(2), 3);
        CHECK.due("cells", loom.count(3), 32800);
        CHECK.due("ops", loom.count(4), 48);
        CHECK.due("free", loom.free(), 4101341182L);
        int[] widths = {32, 32, 8};
        int[] cells = {0, 32, 32768};
        for (int t = 0; t < 3; t++) {
            CHECK.due("WIDTH", loom.thing(t, 0), widths[t]);
            CHECK.due("cells", loom.thing(t, 1), cells[t]);
        }
        loom.poke(1, 0, 5);
        CHECK.due("x[0]", loom.peek(1, 0), 0);
        loom.poke(0, 0, 8);
        loom.poke(1, 31, 5);
        loom.poke(2, 32767, 255);
        loom.step(0x13);
        loom.step(0);
        CHECK.due("pc", loom.peek(0, 0), 12);
        CHECK.due("ship again", loom.ship(), 48);
        CHECK.due("pc", loom.peek(0, 0), 0);
        CHECK.due("x[31]", loom.peek(1, 31), 0);
        CHECK.due("m[32767]", loom.peek(2, 32767), 0);
        CHECK.due("STEPS", loom.count(5), 0);
        CHECK.due("TRAPS", loom.count(6), 0);
        CHECK.due("trap stays", loom.trap(), -2);
        CHECK.thrown("x[32]", NoSuchElementException.class, () -> loom.peek(1, 32));
        CHECK.thrown("m[32768]", NoSuchElementException.class, () -> loom.peek(2, 32768));
        CHECK.thrown("THING 3", NoSuchElementException.class, () -> loom.peek(3, 0));
    }

    /** A word of that op with all else by chance. */
    private static int wordOf(String name, Random random) {
        for (int turn = 0; turn < 100000; turn++) {
            int w = random.nextInt();
            int[] opcodes = {0x37, 0x17, 0x6f, 0x67, 0x63, 0x03, 0x23, 0x13, 0x33, 0x0f, 0x73};
            w = w & ~127 | opcodes[random.nextInt(opcodes.length)];
            if ((w & 127) == 0x73) {
                w = random.nextBoolean() ? 0x73 : 0x100073;
            }
            if ((w & 127) == 0x33 || (w & 0x307f) == 0x1013) {
                w = w & 0x1ffffff | new int[] {0, 1, 32}[random.nextInt(3)] << 25;
            }
            if (name.equals(Rv32.nameOf(w))) {
                return w;
            }
        }
        throw new AssertionError(name);
    }

    private static void decodesAll() {
        Random random = new Random(5);
        MachineLoom loom = new MachineLoom();
        loom.ship();
        for (int op = 0; op < 48; op++) {
            for (int i = 0; i < 200; i++) {
                int w = wordOf(Rv32.NAMES[op], random);
                CHECK.due(Rv32.NAMES[op], loom.decode(w), op);
                int other = w ^ 1 << random.nextInt(32);
                CHECK.due("with a bit changed", loom.decode(other), Rv32.numberOf(other));
            }
        }
        for (int i = 0; i < 100000; i++) {
            int w = random.nextInt() | 3;
            CHECK.due("decode " + w, loom.decode(w), Rv32.numberOf(w));
        }
        CHECK.due("count(7)", loom.count(7), 0);
    }

    private static void field(MachineLoom loom, String op, char letter, int word, long due) {
        CHECK.due(op + " " + letter, loom.field(numberOf(op), letter, word), due);
    }

    private static int numberOf(String op) {
        for (int i = 0; i < 48; i++) {
            if (Rv32.NAMES[i].equals(op)) {
                return i;
            }
        }
        throw new AssertionError(op);
    }

    private static void fields() {
        MachineLoom loom = new MachineLoom();
        loom.ship();
        Random random = new Random(9);
        String[] letters = new String[48];
        for (int op = 0; op < 48; op++) {
            letters[op] = op < 2 ? "id" : op == 2 ? "abced" : op == 3 ? "isd" : op < 10 ? "abtsce" : op < 15 ? "isd"
                    : op < 18 ? "itsj" : op < 24 ? "isd" : op < 27 ? "hsd" : op < 37 ? "tsd" : op < 40 ? "" : "tsd";
        }
        for (int op = 0; op < 48; op++) {
            for (char c = 'A'; c <= 'z'; c++) {
                int number = op;
                char letter = c;
                if (letters[op].indexOf(c) < 0) {
                    CHECK.thrown(Rv32.NAMES[op] + " " + c, NoSuchElementException.class, () -> loom.field(number, letter, 0));
                }
            }
            for (int i = 0; i < 20; i++) {
                fieldsOf(loom, Rv32.NAMES[op], letters[op], random.nextInt());
            }
        }
    }

    private static void fieldsOf(MachineLoom loom, String op, String letters, int w) {
        if (letters.indexOf('d') >= 0) {
            field(loom, op, 'd', w, w >>> 7 & 31);
        }
        if (letters.indexOf('s') >= 0) {
            field(loom, op, 's', w, w >>> 15 & 31);
        }
        if (letters.indexOf('t') >= 0) {
            field(loom, op, 't', w, w >>> 20 & 31);
        }
        if (letters.equals("id")) {
            field(loom, op, 'i', w, w >>> 12);
        } else if (letters.equals("isd")) {
            field(loom, op, 'i', w, w >>> 20);
        } else if (letters.equals("itsj")) {
            field(loom, op, 'i', w, Rv32.immS(w) >>> 5 & 127);
            field(loom, op, 'j', w, Rv32.immS(w) & 31);
        } else if (letters.equals("hsd")) {
            field(loom, op, 'h', w, w >>> 20 & 31);
        } else if (letters.equals("abced")) {
            int imm = Rv32.immJ(w);
            field(loom, op, 'a', w, imm >>> 20 & 1);
            field(loom, op, 'b', w, imm >>> 1 & 1023);
            field(loom, op, 'c', w, imm >>> 11 & 1);
            field(loom, op, 'e', w, imm >>> 12 & 255);
        } else if (letters.equals("abtsce")) {
            int imm = Rv32.immB(w);
            field(loom, op, 'a', w, imm >>> 12 & 1);
            field(loom, op, 'b', w, imm >>> 5 & 63);
            field(loom, op, 'e', w, imm >>> 11 & 1);
            field(loom, op, 'c', w, imm >>> 1 & 15);
        }
    }

    private static void traps() {
        MachineLoom loom = new MachineLoom();
        loom.ship();
        CHECK.due("ecall", loom.step(0x73), 8);
        CHECK.due("ebreak", loom.step(0x100073), 3);
        CHECK.due("not quite ecall", loom.step(0x173), -2);
        CHECK.due("fence", loom.step(0xfff0000fL | 0x8f80), 0);
        CHECK.due("fence.i is no op's", loom.step(0x100f), -2);
        CHECK.due("pc", loom.peek(0, 0), 4);
        CHECK.due("jal 2", loom.step(0x002000ef), 1);
        CHECK.due("x[1] stays", loom.peek(1, 1), 0);
        CHECK.due("beq 2 taken", loom.step(0x00000163), 1);
        CHECK.due("bne 2 not taken", loom.step(0x00001163), 0);
        CHECK.due("pc", loom.peek(0, 0), 8);
        loom.poke(1, 5, 0x102);
        CHECK.due("jalr to 2", loom.step(0x000280e7), 1);
        loom.poke(1, 5, 0x101);
        CHECK.due("jalr cuts the lowest bit", loom.step(0x000282e7), 0);
        CHECK.due("pc", loom.peek(0, 0), 0x100);
        CHECK.due("the jump is worked out before rd", loom.peek(1, 5), 12);
        loom.poke(1, 5, 32767);
        CHECK.due("lb at the end", loom.step(0x00028303), 0);
        CHECK.due("lh beyond", loom.step(0x00029303), -3);
        CHECK.due("lw into x[0] beyond", loom.step(0x0002a003), -3);
        loom.poke(1, 6, -1);
        CHECK.due("sw beyond", loom.step(0x0062a023), -3);
        CHECK.due("is undone", loom.peek(2, 32767), 0);
        CHECK.due("sb", loom.step(0x00628023), 0);
        CHECK.due("m[32767]", loom.peek(2, 32767), 255);
        loom.poke(0, 0, 32768);
        CHECK.due("run beyond", loom.run(1), 0);
        CHECK.due("trap", loom.trap(), -1);
        loom.poke(0, 0, 32765);
        CHECK.due("run half beyond", loom.run(1), 0);
        CHECK.due("trap", loom.trap(), -1);
    }

    private static int value(Random random) {
        return random.nextInt(3) == 0 ? ODD[random.nextInt(ODD.length)] : random.nextInt() >> random.nextInt(32);
    }

    /** Ops by chance on VALUES by chance, with everything compared. */
    private static void steps(int machines, int steps) {
        for (int k = 0; k < machines; k++) {
            Random random = new Random(k);
            MachineLoom loom = new MachineLoom();
            loom.ship();
            Rv32 due = new Rv32();
            random.nextBytes(due.m);
            for (int i = 0; i < Rv32.MEMORY; i++) {
                loom.poke(2, i, due.m[i]);
            }
            for (int i = 0; i < steps; i++) {
                prepare(loom, due, random);
                String name = Rv32.NAMES[random.nextInt(48)];
                int w = wordOf(name, random);
                CHECK.due("step " + name, loom.step(w), due.step(w));
                compare(loom, due, name);
            }
            for (int i = 0; i < Rv32.MEMORY; i++) {
                CHECK.due("m[" + i + "]", loom.peek(2, i), due.m[i] & 255);
            }
        }
    }

    private static void prepare(MachineLoom loom, Rv32 due, Random random) {
        for (int i = 0; i < 3; i++) {
            int r = 1 + random.nextInt(31);
            due.x[r] = random.nextInt(2) == 0 ? random.nextInt(33000) : value(random);
            loom.poke(1, r, due.x[r]);
        }
        due.pc = random.nextInt(4) == 0 ? value(random) : random.nextInt(8192) * 4;
        loom.poke(0, 0, due.pc);
    }

    private static void compare(MachineLoom loom, Rv32 due, String name) {
        CHECK.due("pc behind " + name, loom.peek(0, 0), due.pc & 0xffffffffL);
        for (int r = 0; r < 32; r++) {
            CHECK.due("x[" + r + "] behind " + name, loom.peek(1, r), due.x[r] & 0xffffffffL);
        }
    }

    /** 10! by a loop, from m. */
    private static void factorial() {
        MachineLoom loom = new MachineLoom();
        loom.ship();
        int[] program = {
            0x00a00293, // addi x5, x0, 10
            0x00100513, // addi x10, x0, 1
            0x02550533, // mul x10, x10, x5
            0xfff28293, // addi x5, x5, -1
            0xfe029ce3, // bne x5, x0, -8
            0x00000073, // ecall
        };
        for (int i = 0; i < program.length; i++) {
            for (int k = 0; k < 4; k++) {
                loom.poke(2, 4 * i + k, program[i] >> 8 * k);
            }
        }
        CHECK.due("run", loom.run(500), 32);
        CHECK.due("trap", loom.trap(), 8);
        CHECK.due("x[10]", loom.peek(1, 10), 3628800);
        CHECK.due("pc", loom.peek(0, 0), 20);
        CHECK.due("STEPS", loom.count(5), 32);
        CHECK.due("TRAPS", loom.count(6), 1);
    }
}
