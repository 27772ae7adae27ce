import java.util.NoSuchElementException;

/** Boundary cases of THE SHIPPED MACHINE and of promise 5: a test for each sentence. */
public final class ShippedBoundsTest {
    private static final Check CHECK = new Check();
    private static final int MIN = Integer.MIN_VALUE;
    private static final int MAX = Integer.MAX_VALUE;
    private static final MachineLoom RESULTS = shipped();

    public static void main(String[] args) {
        ships();
        things();
        ops();
        registerZero();
        constants();
        comparing();
        shifting();
        sums();
        products();
        quotients();
        upperParts();
        branches();
        jumps();
        jumpsToRegisters();
        loads();
        stores();
        outside();
        notAMultiple();
        fields();
        fences();
        calls();
        runs();
        CHECK.finish();
    }

    private static MachineLoom shipped() {
        MachineLoom loom = new MachineLoom();
        loom.ship();
        return loom;
    }

    private static int r(int f7, int f3, int d, int s, int t) {
        return f7 << 25 | t << 20 | s << 15 | f3 << 12 | d << 7 | 0x33;
    }

    private static int i(int opcode, int f3, int d, int s, int imm) {
        return imm << 20 | s << 15 | f3 << 12 | d << 7 | opcode;
    }

    private static int store(int f3, int s, int t, int imm) {
        return imm >> 5 << 25 | t << 20 | s << 15 | f3 << 12 | (imm & 31) << 7 | 0x23;
    }

    private static int branch(int f3, int s, int t, int imm) {
        return (imm >> 12 & 1) << 31 | (imm >> 5 & 63) << 25 | t << 20 | s << 15 | f3 << 12 | (imm >> 1 & 15) << 8 | (imm >> 11 & 1) << 7 | 0x63;
    }

    private static int jal(int d, int imm) {
        return (imm >> 20 & 1) << 31 | (imm >> 1 & 1023) << 21 | (imm >> 11 & 1) << 20 | (imm >> 12 & 255) << 12 | d << 7 | 0x6f;
    }

    private static int upper(int opcode, int d, int imm) {
        return imm << 12 | d << 7 | opcode;
    }

    private static void ships() {
        CHECK.sentence("THE MACHINE is the shipped one, all VALUES 0. Answers how many ops.");
        MachineLoom loom = new MachineLoom();
        for (int turn = 0; turn < 3; turn++) {
            CHECK.due("ship", loom.ship(), 48);
            CHECK.due("pc", loom.peek(0, 0), 0);
            for (int k = 0; k < 32; k++) {
                CHECK.due("x[" + k + "]", loom.peek(1, k), 0);
                loom.poke(1, k, -1);
            }
            for (int k = 0; k < 32768; k += turn == 2 ? 1 : 4681) {
                CHECK.due("m[" + k + "]", loom.peek(2, k), 0);
                loom.poke(2, k, -1);
            }
            loom.poke(0, 0, -1);
            if (turn == 1) {
                Check.build(loom, "bits 8; reg a: 64; file b: 64[40000]; op o \"........\" {}");
                loom.poke(0, 0, -1);
                loom.poke(1, 0, -1);
                loom.poke(1, 33000, -1);
            }
        }
        Check.feed(loom, "bits 8;");
        loom.ship();
        CHECK.due("INPUT stays", loom.count(0), 7);
        CHECK.due("and is built then", loom.build(), 0);
        CHECK.due("LENGTH", loom.count(1), 8);
    }

    private static void things() {
        CHECK.sentence("LENGTH 32; THINGS 0 pc (32 bits), 1 x (32 cells of 32 bits, zero), 2 m (32768 cells of 8 bits); fetch pc from m.");
        MachineLoom loom = shipped();
        CHECK.due("LENGTH", loom.count(1), 32);
        CHECK.due("THINGS", loom.count(2), 3);
        CHECK.due("cells", loom.count(3), 32 + 32768);
        int[][] due = {{32, 0}, {32, 32}, {8, 32768}};
        for (int t = 0; t < 3; t++) {
            CHECK.due("WIDTH", loom.thing(t, 0), due[t][0]);
            CHECK.due("cells", loom.thing(t, 1), due[t][1]);
        }
        loom.poke(1, 0, -1);
        CHECK.due("x[0]", loom.peek(1, 0), 0);
        loom.poke(1, 31, -1);
        CHECK.due("x[31]", loom.peek(1, 31), 0xffffffffL);
        loom.poke(2, 0, -1);
        CHECK.due("m[0]", loom.peek(2, 0), 255);
        loom.poke(2, 32767, -1);
        CHECK.due("m[32767]", loom.peek(2, 32767), 255);
        loom.poke(0, 0, -1);
        CHECK.due("pc", loom.peek(0, 0), 0xffffffffL);
        int[][] outside = {{3, 0}, {-1, 0}, {0, 1}, {1, 32}, {1, -1}, {2, 32768}, {2, -1}};
        for (int[] o : outside) {
            CHECK.thrown("peek", NoSuchElementException.class, () -> loom.peek(o[0], o[1]));
        }
    }

    private static void ops() {
        CHECK.sentence("Ops 0 ..: lui auipc jal jalr beq bne blt bge bltu bgeu lb lh lw lbu lhu sb sh sw addi slti sltiu xori ori andi slli srli srai add sub sll slt sltu "
                + "xor srl sra or and fence ecall ebreak mul mulh mulhsu mulhu div divu rem remu");
        int[] words = {0x37, 0x17, 0x6f, 0x67, 0x63, 0x1063, 0x4063, 0x5063, 0x6063, 0x7063, 0x03, 0x1003, 0x2003, 0x4003, 0x5003, 0x23, 0x1023, 0x2023,
            0x13, 0x2013, 0x3013, 0x4013, 0x6013, 0x7013, 0x1013, 0x5013, 0x40005013, 0x33, 0x40000033, 0x1033, 0x2033, 0x3033, 0x4033, 0x5033, 0x40005033,
            0x6033, 0x7033, 0x0f, 0x73, 0x00100073, 0x02000033, 0x02001033, 0x02002033, 0x02003033, 0x02004033, 0x02005033, 0x02006033, 0x02007033};
        MachineLoom loom = shipped();
        CHECK.due("as many", words.length, loom.count(4));
        for (int op = 0; op < words.length; op++) {
            CHECK.due("op " + op, loom.decode(words[op]), op);
            CHECK.due("with bits above", loom.decode(words[op] | 0xffffffff00000000L), op);
        }
        // What is next to them is none: other funct3, funct7, opcodes.
        int[] none = {0, -1, 0x1067, 0x7067, 0x2063, 0x3063, 0x3003, 0x6003, 0x7003, 0x3023, 0x4023, 0x7023, 0x02001013, 0x40001013, 0x02005013, 0x42005013,
            0x04000033, 0x80000033, 0x42000033, 0x40001033, 0x40002033, 0x40007033, 0x06000033, 0x100f, 0x700f, 0xf3, 0x00200073, 0x00100173, 0x000800f3,
            0x36, 0x35, 0x33 ^ 1, 0x3b, 0x1b, 0x2f, 0x07, 0x27, 0x53, 0x30200073, 0x10500073};
        for (int word : none) {
            CHECK.due("decode " + Integer.toHexString(word), loom.decode(word), -1);
        }
        // Those with 25 signs free, with 22 (jalr, branches, loads, stores, constants, fence), with 15, with none.
        long used = (3L << 25) + (1 + 6 + 5 + 3 + 6 + 1 << 22) + (3 + 10 + 8 << 15) + 2;
        CHECK.due("free", loom.free(), (1L << 32) - used);
    }

    /** x[3] behind that WORD, with x[1] and x[2] poked. */
    private static void result(String what, int word, int a, int b, int due) {
        MachineLoom loom = RESULTS;
        loom.poke(0, 0, 0);
        loom.poke(1, 1, a);
        loom.poke(1, 2, b);
        loom.poke(1, 3, ~due);
        CHECK.due("step of " + what, loom.step(word), 0);
        CHECK.due(what + " of " + a + ", " + b, loom.peek(1, 3), due & 0xffffffffL);
        CHECK.due("pc behind " + what, loom.peek(0, 0), 4);
    }

    private static void registerZero() {
        CHECK.sentence("1 x (32 cells of 32 bits, zero)");
        MachineLoom loom = shipped();
        loom.poke(1, 1, 8);
        loom.poke(2, 8, 77);
        int[] words = {upper(0x37, 0, 5), upper(0x17, 0, 5), i(0x13, 0, 0, 1, 5), i(0x03, 0, 0, 1, 0), r(0, 0, 0, 1, 1), r(1, 0, 0, 1, 1)};
        for (int word : words) {
            CHECK.due("step", loom.step(word), 0);
            CHECK.due("x[0]", loom.peek(1, 0), 0);
        }
        CHECK.due("pc", loom.peek(0, 0), 24);
        CHECK.due("jal", loom.step(jal(0, 8)), 0);
        CHECK.due("x[0]", loom.peek(1, 0), 0);
        CHECK.due("pc", loom.peek(0, 0), 32);
        CHECK.due("jalr", loom.step(i(0x67, 0, 0, 1, 0)), 0);
        CHECK.due("x[0]", loom.peek(1, 0), 0);
        CHECK.due("pc", loom.peek(0, 0), 8);
        // Each of the 31 others has its own.
        for (int d = 1; d < 32; d++) {
            loom.step(i(0x13, 0, d, 0, 100 + d));
        }
        for (int d = 0; d < 32; d++) {
            CHECK.due("x[" + d + "]", loom.peek(1, d), d == 0 ? 0 : 100 + d);
        }
    }

    private static void constants() {
        CHECK.sentence("as the unprivileged manual of RV32I with M (20191213) says");
        int[] edges = {0, 1, -1, MIN, MAX, 2047, -2048};
        int[] imms = {0, 1, -1, 2047, -2048};
        for (int a : edges) {
            for (int imm : imms) {
                result("addi " + imm, i(0x13, 0, 3, 1, imm), a, 0, a + imm);
                result("xori " + imm, i(0x13, 4, 3, 1, imm), a, 0, a ^ imm);
                result("ori " + imm, i(0x13, 6, 3, 1, imm), a, 0, a | imm);
                result("andi " + imm, i(0x13, 7, 3, 1, imm), a, 0, a & imm);
            }
        }
    }

    private static void comparing() {
        CHECK.sentence("as the unprivileged manual of RV32I with M (20191213) says");
        int[] edges = {0, 1, -1, MIN, MAX, MIN + 1, MAX - 1};
        for (int a : edges) {
            for (int imm : new int[] {0, 1, -1, 2047, -2048}) {
                result("slti " + imm, i(0x13, 2, 3, 1, imm), a, 0, a < imm ? 1 : 0);
                result("sltiu " + imm, i(0x13, 3, 3, 1, imm), a, 0, Integer.compareUnsigned(a, imm) < 0 ? 1 : 0);
            }
            for (int b : edges) {
                result("slt", r(0, 2, 3, 1, 2), a, b, a < b ? 1 : 0);
                result("sltu", r(0, 3, 3, 1, 2), a, b, Integer.compareUnsigned(a, b) < 0 ? 1 : 0);
            }
        }
    }

    private static void shifting() {
        CHECK.sentence("as the unprivileged manual of RV32I with M (20191213) says");
        int[] edges = {1, -1, MIN, MAX, 0x40000001};
        for (int a : edges) {
            for (int by : new int[] {0, 1, 30, 31}) {
                result("slli " + by, i(0x13, 1, 3, 1, by), a, 0, a << by);
                result("srli " + by, i(0x13, 5, 3, 1, by), a, 0, a >>> by);
                result("srai " + by, i(0x13, 5, 3, 1, by | 1024), a, 0, a >> by);
                for (int above : new int[] {0, 32, 64, -32, MIN}) {
                    result("sll", r(0, 1, 3, 1, 2), a, by + above, a << by);
                    result("srl", r(0, 5, 3, 1, 2), a, by + above, a >>> by);
                    result("sra", r(32, 5, 3, 1, 2), a, by + above, a >> by);
                }
            }
        }
    }

    private static final int[] EDGES = {0, 1, 2, -1, -2, MIN, MAX, MIN + 1, MAX - 1, 65535, 65536, -65536, 7, -7};

    private static void sums() {
        CHECK.sentence("as the unprivileged manual of RV32I with M (20191213) says");
        for (int a : EDGES) {
            for (int b : EDGES) {
                result("add", r(0, 0, 3, 1, 2), a, b, a + b);
                result("sub", r(32, 0, 3, 1, 2), a, b, a - b);
                result("xor", r(0, 4, 3, 1, 2), a, b, a ^ b);
                result("or", r(0, 6, 3, 1, 2), a, b, a | b);
                result("and", r(0, 7, 3, 1, 2), a, b, a & b);
            }
        }
    }

    private static void products() {
        CHECK.sentence("as the unprivileged manual of RV32I with M (20191213) says");
        for (int a : EDGES) {
            for (int b : EDGES) {
                long ua = a & 0xffffffffL;
                long ub = b & 0xffffffffL;
                result("mul", r(1, 0, 3, 1, 2), a, b, a * b);
                result("mulh", r(1, 1, 3, 1, 2), a, b, (int) ((long) a * b >> 32));
                result("mulhsu", r(1, 2, 3, 1, 2), a, b, (int) (a * ub >> 32));
                result("mulhu", r(1, 3, 3, 1, 2), a, b, (int) (ua * ub >>> 32));
            }
        }
    }

    private static void quotients() {
        CHECK.sentence("as the unprivileged manual of RV32I with M (20191213) says");
        for (int a : EDGES) {
            for (int b : EDGES) {
                result("div", r(1, 4, 3, 1, 2), a, b, b == 0 ? -1 : a / b);
                result("divu", r(1, 5, 3, 1, 2), a, b, b == 0 ? -1 : Integer.divideUnsigned(a, b));
                result("rem", r(1, 6, 3, 1, 2), a, b, b == 0 ? a : a % b);
                result("remu", r(1, 7, 3, 1, 2), a, b, b == 0 ? a : Integer.remainderUnsigned(a, b));
            }
        }
    }

    private static void upperParts() {
        CHECK.sentence("i the twelve bits (for lui, auipc the twenty) of a constant");
        MachineLoom loom = shipped();
        for (int imm : new int[] {0, 1, 0x7ffff, 0x80000, 0xfffff}) {
            for (long pc : new long[] {0, 4, 0x7ffffffcL, 0xfffffffcL}) {
                loom.poke(0, 0, pc);
                loom.step(upper(0x37, 3, imm));
                CHECK.due("lui", loom.peek(1, 3), (long) imm << 12);
                CHECK.due("pc", loom.peek(0, 0), pc + 4 & 0xffffffffL);
                loom.poke(0, 0, pc);
                loom.step(upper(0x17, 3, imm));
                CHECK.due("auipc", loom.peek(1, 3), pc + ((long) imm << 12) & 0xffffffffL);
                CHECK.due("pc", loom.peek(0, 0), pc + 4 & 0xffffffffL);
            }
            CHECK.due("i of lui", loom.field(0, 'i', upper(0x37, 3, imm)), imm);
            CHECK.due("i of auipc", loom.field(1, 'i', upper(0x17, 3, imm)), imm);
        }
        for (int imm : new int[] {0, 1, 2047, 2048, 4095}) {
            for (int op : new int[] {3, 10, 11, 12, 13, 14, 18, 19, 20, 21, 22, 23}) {
                CHECK.due("i of op " + op, loom.field(op, 'i', imm << 20), imm);
            }
        }
    }

    private static void branches() {
        CHECK.sentence("as the unprivileged manual of RV32I with M (20191213) says");
        int[] edges = {0, 1, -1, MIN, MAX};
        MachineLoom loom = shipped();
        for (int a : edges) {
            for (int b : edges) {
                int unsigned = Integer.compareUnsigned(a, b);
                boolean[] taken = {a == b, a != b, false, false, a < b, a >= b, unsigned < 0, unsigned >= 0};
                for (int f3 : new int[] {0, 1, 4, 5, 6, 7}) {
                    for (int to : new int[] {-4096, -4, 0, 4, 8, 2048, 4092}) {
                        loom.poke(1, 1, a);
                        loom.poke(1, 2, b);
                        loom.poke(0, 0, 1000);
                        CHECK.due("step", loom.step(branch(f3, 1, 2, to)), 0);
                        CHECK.due("pc behind a branch of " + f3 + " by " + to, loom.peek(0, 0), 1000 + (taken[f3] ? to : 4) & 0xffffffffL);
                    }
                }
            }
        }
    }

    private static void jumps() {
        CHECK.sentence("as the unprivileged manual of RV32I with M (20191213) says");
        MachineLoom loom = shipped();
        for (int to : new int[] {0, 4, -4, 2044, 2048, 4096, -1048576, 1048572, 524288}) {
            for (long pc : new long[] {0, 4, 1048576, 0xfffffffcL, 0x80000000L}) {
                loom.poke(0, 0, pc);
                CHECK.due("jal", loom.step(jal(3, to)), 0);
                CHECK.due("pc by " + to, loom.peek(0, 0), pc + to & 0xffffffffL);
                CHECK.due("x[3]", loom.peek(1, 3), pc + 4 & 0xffffffffL);
            }
        }
    }

    private static void jumpsToRegisters() {
        CHECK.sentence("as the unprivileged manual of RV32I with M (20191213) says");
        MachineLoom loom = shipped();
        for (int a : new int[] {0, 1, 4, 5, -4, -3, MIN, MAX, 1000}) {
            for (int imm : new int[] {0, 1, 3, -4, -3, 2047, -2048}) {
                int to = a + imm & ~1;
                loom.poke(0, 0, 100);
                loom.poke(1, 1, a);
                loom.poke(1, 3, 9);
                boolean right = (to & 3) == 0;
                CHECK.due("jalr " + a + " " + imm, loom.step(i(0x67, 0, 3, 1, imm)), right ? 0 : 1);
                CHECK.due("pc", loom.peek(0, 0), right ? to & 0xffffffffL : 100);
                CHECK.due("x[3]", loom.peek(1, 3), right ? 104 : 9);
                // The same register as both.
                CHECK.due("jalr " + a + " " + imm, loom.step(i(0x67, 0, 1, 1, imm)), right ? 0 : 1);
                CHECK.due("pc", loom.peek(0, 0), right ? to & 0xffffffffL : 100);
            }
        }
    }

    private static void loads() {
        CHECK.sentence("lowest byte first, with: loads and stores at any place");
        MachineLoom loom = shipped();
        int[] bytes = {0x80, 0x7f, 0xff, 0x01, 0x81, 0xfe, 0x00, 0x82};
        for (int k = 0; k < 8; k++) {
            loom.poke(2, 96 + k, bytes[k]);
        }
        for (int k = 0; k < 5; k++) {
            int half = bytes[k] | bytes[k + 1] << 8;
            int word = half | bytes[k + 2] << 16 | bytes[k + 3] << 24;
            int[] due = {(byte) bytes[k], (short) half, word, 0, bytes[k], half};
            for (int f3 : new int[] {0, 1, 2, 4, 5}) {
                for (int imm : new int[] {0, 1, -1, 2047, -2048}) {
                    loom.poke(1, 1, 96 + k - imm);
                    CHECK.due("step", loom.step(i(0x03, f3, 3, 1, imm)), 0);
                    CHECK.due("load " + f3 + " of " + k, loom.peek(1, 3), due[f3] & 0xffffffffL);
                    // Into the register of the place itself.
                    CHECK.due("step", loom.step(i(0x03, f3, 1, 1, imm)), 0);
                    CHECK.due("load " + f3 + " of " + k, loom.peek(1, 1), due[f3] & 0xffffffffL);
                }
            }
        }
    }

    private static void stores() {
        CHECK.sentence("for stores i its highest seven, j its lowest five");
        int[] sizes = {1, 2, 4};
        for (int f3 = 0; f3 < 3; f3++) {
            for (int at = 200; at < 204; at++) {
                for (int imm : new int[] {0, 1, -1, 31, 32, -32, 2047, -2048}) {
                    MachineLoom loom = shipped();
                    for (int k = 190; k < 220; k++) {
                        loom.poke(2, k, 0x11);
                    }
                    loom.poke(1, 1, at - imm);
                    loom.poke(1, 2, 0x89abcdef);
                    int word = store(f3, 1, 2, imm);
                    CHECK.due("step", loom.step(word), 0);
                    for (int k = 190; k < 220; k++) {
                        boolean stored = k >= at && k < at + sizes[f3];
                        CHECK.due("m[" + k + "]", loom.peek(2, k), stored ? 0x89abcdef >>> 8 * (k - at) & 255 : 0x11);
                    }
                    CHECK.due("pc", loom.peek(0, 0), 4);
                    CHECK.due("i", loom.field(15 + f3, 'i', word), imm >> 5 & 127);
                    CHECK.due("j", loom.field(15 + f3, 'j', word), imm & 31);
                }
            }
        }
    }

    private static void outside() {
        CHECK.sentence("a byte outside m: TRAP -3");
        int[] loadSizes = {1, 2, 4, 0, 1, 2};
        MachineLoom loom = shipped();
        for (int k = 32760; k < 32768; k++) {
            loom.poke(2, k, 0x33);
        }
        for (int f3 : new int[] {0, 1, 2, 4, 5}) {
            for (int at : new int[] {32760, 32763, 32764, 32765, 32766, 32767, 32768, 32769, -1, -2, -3, -4, -5, MIN, MAX, 65536, 1 << 30}) {
                boolean there = at >= 0 && at <= 32768 - loadSizes[f3];
                loom.poke(0, 0, 400);
                loom.poke(1, 1, at);
                loom.poke(1, 3, 5);
                CHECK.due("load " + f3 + " at " + at, loom.step(i(0x03, f3, 3, 1, 0)), there ? 0 : -3);
                CHECK.due("pc", loom.peek(0, 0), there ? 404 : 400);
                if (!there) {
                    CHECK.due("x[3] stays", loom.peek(1, 3), 5);
                    CHECK.due("into x[0], too", loom.step(i(0x03, f3, 0, 1, 0)), -3);
                }
                if (f3 < 3) {
                    loom.poke(1, 2, 0x44444444);
                    CHECK.due("store " + f3 + " at " + at, loom.step(store(f3, 1, 2, 0)), there ? 0 : -3);
                    for (int k = 32756; k < 32768; k++) {
                        boolean stored = there && k >= at && k < at + loadSizes[f3];
                        CHECK.due("m[" + k + "]", loom.peek(2, k), stored ? 0x44 : k < 32760 ? 0 : 0x33);
                        loom.poke(2, k, k < 32760 ? 0 : 0x33);
                    }
                    CHECK.due("nor the first ones", loom.peek(2, 0) + loom.peek(2, 1) + loom.peek(2, 2), 0);
                }
            }
        }
    }

    private static void notAMultiple() {
        CHECK.sentence("a jump or taken branch to what isn't a multiple of 4: TRAP 1");
        MachineLoom loom = shipped();
        for (int pc : new int[] {0, 1, 2, 3, 1000, 1002}) {
            for (int by : new int[] {-4, -2, 2, 4, 6, 8, 2046, 4094, -4096}) {
                boolean right = (pc + by & 3) == 0;
                loom.poke(0, 0, pc);
                loom.poke(1, 3, 7);
                CHECK.due("jal from " + pc + " by " + by, loom.step(jal(3, by)), right ? 0 : 1);
                CHECK.due("pc", loom.peek(0, 0), (right ? pc + by : pc) & 0xffffffffL);
                CHECK.due("x[3]", loom.peek(1, 3), right ? pc + 4 : 7);
                for (int f3 : new int[] {0, 5, 7}) {
                    loom.poke(0, 0, pc);
                    CHECK.due("taken from " + pc + " by " + by, loom.step(branch(f3, 0, 0, by)), right ? 0 : 1);
                    CHECK.due("pc", loom.peek(0, 0), (right ? pc + by : pc) & 0xffffffffL);
                }
                for (int f3 : new int[] {1, 4, 6}) {
                    loom.poke(0, 0, pc);
                    CHECK.due("not taken", loom.step(branch(f3, 0, 0, by)), 0);
                    CHECK.due("pc", loom.peek(0, 0), pc + 4);
                }
            }
            // Other ops don't mind where they stand.
            loom.poke(0, 0, pc);
            CHECK.due("addi", loom.step(0x13), 0);
            CHECK.due("pc", loom.peek(0, 0), pc + 4);
        }
        for (int a = 0; a < 8; a++) {
            loom.poke(1, 1, a);
            CHECK.due("jalr to " + a, loom.step(i(0x67, 0, 0, 1, 0)), (a & 2) == 0 ? 0 : 1);
        }
    }

    private static void fields() {
        CHECK.sentence("for branches a, b, e, c its bits 12, 10 .. 5, 11, 4 .. 1 (c and e stand so: 4 .. 1, 11), for jal a, b, c, e its bits 20, 10 .. 1, 11, 19 .. 12");
        MachineLoom loom = shipped();
        for (int bit = 1; bit <= 20; bit++) {
            int imm = 1 << bit;
            int j = jal(0, imm);
            CHECK.due("a", loom.field(2, 'a', j), bit == 20 ? 1 : 0);
            CHECK.due("b", loom.field(2, 'b', j), bit <= 10 ? imm >> 1 : 0);
            CHECK.due("c", loom.field(2, 'c', j), bit == 11 ? 1 : 0);
            CHECK.due("e", loom.field(2, 'e', j), bit >= 12 && bit <= 19 ? imm >> 12 : 0);
            for (int op = 4; op < 10 && bit <= 12; op++) {
                int w = branch(0, 0, 0, imm);
                CHECK.due("a", loom.field(op, 'a', w), bit == 12 ? 1 : 0);
                CHECK.due("b", loom.field(op, 'b', w), bit >= 5 && bit <= 10 ? imm >> 5 : 0);
                CHECK.due("e", loom.field(op, 'e', w), bit == 11 ? 1 : 0);
                CHECK.due("c", loom.field(op, 'c', w), bit <= 4 ? imm >> 1 : 0);
            }
        }
        CHECK.sentence("FIELDS (as field has them): d, s, t are rd, rs1, rs2");
        String[] letters = new String[48];
        for (int op = 0; op < 48; op++) {
            letters[op] = op < 2 ? "di" : op == 2 ? "abcde" : op == 3 ? "dsi" : op < 10 ? "abcest" : op < 15 ? "dsi" : op < 18 ? "ijst"
                    : op < 24 ? "dsi" : op < 27 ? "dsh" : op < 37 ? "dst" : op < 40 ? "" : "dst";
            for (int c = 0; c < 256; c++) {
                int number = op;
                int letter = c;
                if (letters[op].indexOf(c) < 0) {
                    CHECK.thrown("field(" + op + ", " + c + ")", NoSuchElementException.class, () -> loom.field(number, letter, -1));
                }
            }
            for (int k = 0; k < 32; k++) {
                if (letters[op].indexOf('d') >= 0) {
                    CHECK.due("d", loom.field(op, 'd', k << 7), k);
                    CHECK.due("d", loom.field(op, 'd', ~(31 << 7)), 0);
                }
                if (letters[op].indexOf('s') >= 0) {
                    CHECK.due("s", loom.field(op, 's', k << 15), k);
                    CHECK.due("s", loom.field(op, 's', ~(31 << 15)), 0);
                }
                if (letters[op].indexOf('t') >= 0) {
                    CHECK.due("t", loom.field(op, 't', k << 20), k);
                    CHECK.due("t", loom.field(op, 't', ~(31 << 20)), 0);
                }
            }
        }
        CHECK.sentence("for slli, srli, srai h how far; none for fence, ecall, ebreak");
        for (int op = 24; op < 27; op++) {
            for (int k = 0; k < 32; k++) {
                CHECK.due("h", loom.field(op, 'h', k << 20 | 0xfe0fffff), k);
            }
        }
        for (int op = 37; op < 40; op++) {
            int number = op;
            CHECK.thrown("d of op " + op, NoSuchElementException.class, () -> loom.field(number, 'd', 0));
        }
    }

    private static void fences() {
        CHECK.sentence("fence (funct3 000, all else any) does nothing");
        MachineLoom loom = shipped();
        loom.poke(1, 31, 7);
        int[] words = {0x0f, 0x0ff0000f, 0x8330000f, 0xffff8f8f, 0x0100000f};
        for (int k = 0; k < words.length; k++) {
            CHECK.due("decode", loom.decode(words[k]), 37);
            CHECK.due("step", loom.step(words[k]), 0);
            CHECK.due("pc", loom.peek(0, 0), 4 * (k + 1));
        }
        CHECK.due("x[31]", loom.peek(1, 31), 7);
        for (int f3 = 1; f3 < 8; f3++) {
            CHECK.due("funct3 " + f3, loom.step(0x0f | f3 << 12), -2);
        }
    }

    private static void calls() {
        CHECK.sentence("ecall, ebreak (those WORDS alone): TRAP 8, TRAP 3.");
        MachineLoom loom = shipped();
        loom.poke(0, 0, 12);
        CHECK.due("ecall", loom.step(0x73), 8);
        CHECK.due("ebreak", loom.step(0x100073), 3);
        CHECK.due("pc stays", loom.peek(0, 0), 12);
        for (int bit = 0; bit < 32; bit++) {
            if (bit != 20) {
                CHECK.due("ecall with bit " + bit + " changed", loom.decode(0x73 ^ 1 << bit), Rv32.numberOf(0x73 ^ 1 << bit));
                CHECK.due("ebreak with bit " + bit + " changed", loom.decode(0x100073 ^ 1 << bit), Rv32.numberOf(0x100073 ^ 1 << bit));
            }
            if (bit >= 7 && bit != 20) {
                CHECK.due("ecall with bit " + bit + " changed", loom.step(0x73 ^ 1 << bit), -2);
                CHECK.due("ebreak with bit " + bit + " changed", loom.step(0x100073 ^ 1 << bit), -2);
            }
        }
    }

    private static void runs() {
        CHECK.sentence("fetch pc from m.");
        MachineLoom loom = shipped();
        // addi x1, x1, 1 in the last four cells, at which pc is.
        int word = i(0x13, 0, 1, 1, 1);
        for (int k = 0; k < 4; k++) {
            loom.poke(2, 32764 + k, word >> 8 * k);
        }
        loom.poke(0, 0, 32764);
        CHECK.due("the last WORD", loom.run(500), 1);
        CHECK.due("trap behind it", loom.trap(), -1);
        CHECK.due("pc", loom.peek(0, 0), 32768);
        CHECK.due("x[1]", loom.peek(1, 1), 1);
        for (long pc : new long[] {32765, 32766, 32767, 32768, 0xfffffffcL, 0xffffffffL, 0x80000000L}) {
            loom.poke(0, 0, pc);
            CHECK.due("run at " + pc, loom.run(1), 0);
            CHECK.due("trap", loom.trap(), -1);
        }
        // At a place that is no multiple of 4, too.
        for (int k = 0; k < 4; k++) {
            loom.poke(2, 1 + k, word >> 8 * k);
        }
        loom.poke(0, 0, 1);
        CHECK.due("run", loom.run(1), 1);
        CHECK.due("pc", loom.peek(0, 0), 5);
        CHECK.due("cells of 0 are no op's", loom.run(1), 0);
        CHECK.due("trap", loom.trap(), -2);
    }
}
