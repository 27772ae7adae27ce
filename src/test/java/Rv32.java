/** RV32IM as its manual tells it, by hand: what the shipped machine is compared with. */
final class Rv32 {
    static final String[] NAMES = ("lui auipc jal jalr beq bne blt bge bltu bgeu lb lh lw lbu lhu sb sh sw addi slti sltiu"
            + " xori ori andi slli srli srai add sub sll slt sltu xor srl sra or and fence ecall ebreak"
            + " mul mulh mulhsu mulhu div divu rem remu").split(" ");
    static final int MEMORY = 32768;

    int pc;
    final int[] x = new int[32];
    final byte[] m = new byte[MEMORY];
    private int next;

    private static final class Outside extends RuntimeException {
    }

    /** The name of the instruction, null if there is none. */
    static String nameOf(int w) {
        int opcode = w & 127;
        int f3 = w >>> 12 & 7;
        int f7 = w >>> 25;
        switch (opcode) {
            case 0x37:
                return "lui";
            case 0x17:
                return "auipc";
            case 0x6f:
                return "jal";
            case 0x67:
                return f3 == 0 ? "jalr" : null;
            case 0x63:
                return pick("beq bne - - blt bge bltu bgeu", f3);
            case 0x03:
                return pick("lb lh lw - lbu lhu - -", f3);
            case 0x23:
                return pick("sb sh sw - - - - -", f3);
            case 0x13:
                if (f3 == 1) {
                    return f7 == 0 ? "slli" : null;
                }
                if (f3 == 5) {
                    return f7 == 0 ? "srli" : f7 == 32 ? "srai" : null;
                }
                return pick("addi - slti sltiu xori - ori andi", f3);
            case 0x33:
                if (f7 == 0) {
                    return pick("add sll slt sltu xor srl or and", f3);
                }
                if (f7 == 32) {
                    return pick("sub - - - - sra - -", f3);
                }
                return f7 == 1 ? pick("mul mulh mulhsu mulhu div divu rem remu", f3) : null;
            case 0x0f:
                return f3 == 0 ? "fence" : null;
            default:
                return w == 0x73 ? "ecall" : w == 0x100073 ? "ebreak" : null;
        }
    }

    private static String pick(String names, int f3) {
        String name = names.split(" ")[f3];
        return name.equals("-") ? null : name;
    }

    static int numberOf(int w) {
        String name = nameOf(w);
        for (int i = 0; i < NAMES.length; i++) {
            if (NAMES[i].equals(name)) {
                return i;
            }
        }
        return -1;
    }

    static int immI(int w) {
        return w >> 20;
    }

    static int immS(int w) {
        return w >> 25 << 5 | w >>> 7 & 31;
    }

    static int immB(int w) {
        return w >> 31 << 12 | (w >>> 7 & 1) << 11 | (w >>> 25 & 63) << 5 | (w >>> 8 & 15) << 1;
    }

    static int immJ(int w) {
        return w >> 31 << 20 | (w >>> 12 & 255) << 12 | (w >>> 20 & 1) << 11 | (w >>> 21 & 1023) << 1;
    }

    /** The TRAP, or 0. */
    int step(int w) {
        String name = nameOf(w);
        if (name == null) {
            return -2;
        }
        if (name.equals("ecall") || name.equals("ebreak")) {
            return name.equals("ecall") ? 8 : 3;
        }
        next = pc + 4;
        int rd = w >>> 7 & 31;
        int a = x[w >>> 15 & 31];
        int b = x[w >>> 20 & 31];
        int result;
        boolean writes = true;
        boolean jumps = false;
        try {
            switch (w & 127) {
                case 0x37:
                    result = w & 0xfffff000;
                    break;
                case 0x17:
                    result = pc + (w & 0xfffff000);
                    break;
                case 0x6f:
                    result = next;
                    jumps = true;
                    next = pc + immJ(w);
                    break;
                case 0x67:
                    result = next;
                    jumps = true;
                    next = a + immI(w) & ~1;
                    break;
                case 0x63:
                    result = 0;
                    writes = false;
                    if (taken(name, a, b)) {
                        jumps = true;
                        next = pc + immB(w);
                    }
                    break;
                case 0x03:
                    result = loaded(name, a + immI(w));
                    break;
                case 0x23:
                    result = 0;
                    writes = false;
                    store(name, a + immS(w), b);
                    break;
                case 0x13:
                    result = alu(name.equals("sltiu") ? "sltu" : name.replaceFirst("i$", ""), a,
                            name.startsWith("s") && !name.startsWith("slt") ? immI(w) & 31 : immI(w));
                    break;
                case 0x33:
                    result = alu(name, a, b);
                    break;
                default:
                    result = 0;
                    writes = false;
            }
        } catch (Outside o) {
            return -3;
        }
        if (jumps && (next & 3) != 0) {
            return 1;
        }
        if (writes && rd != 0) {
            x[rd] = result;
        }
        pc = next;
        return 0;
    }

    private static boolean taken(String name, int a, int b) {
        switch (name) {
            case "beq":
                return a == b;
            case "bne":
                return a != b;
            case "blt":
                return a < b;
            case "bge":
                return a >= b;
            case "bltu":
                return Integer.compareUnsigned(a, b) < 0;
            default:
                return Integer.compareUnsigned(a, b) >= 0;
        }
    }

    private int at(int place) {
        if (place < 0 || place >= MEMORY) {
            throw new Outside();
        }
        return m[place] & 255;
    }

    private int loaded(String name, int place) {
        switch (name) {
            case "lb":
                return (byte) at(place);
            case "lbu":
                return at(place);
            case "lh":
                return (short) (at(place) | at(place + 1) << 8);
            case "lhu":
                return at(place) | at(place + 1) << 8;
            default:
                return at(place) | at(place + 1) << 8 | at(place + 2) << 16 | at(place + 3) << 24;
        }
    }

    private void store(String name, int place, int value) {
        int bytes = name.equals("sb") ? 1 : name.equals("sh") ? 2 : 4;
        for (int i = 0; i < bytes; i++) {
            at(place + i);
        }
        for (int i = 0; i < bytes; i++) {
            m[place + i] = (byte) (value >> 8 * i);
        }
    }

    private static int alu(String name, int a, int b) {
        long unsignedA = a & 0xffffffffL;
        long unsignedB = b & 0xffffffffL;
        switch (name) {
            case "add":
                return a + b;
            case "sub":
                return a - b;
            case "sll":
                return a << (b & 31);
            case "slt":
                return a < b ? 1 : 0;
            case "sltu":
                return unsignedA < unsignedB ? 1 : 0;
            case "xor":
                return a ^ b;
            case "srl":
                return a >>> (b & 31);
            case "sra":
                return a >> (b & 31);
            case "or":
                return a | b;
            case "and":
                return a & b;
            case "mul":
                return a * b;
            case "mulh":
                return (int) ((long) a * b >> 32);
            case "mulhsu":
                return (int) (a * unsignedB >> 32);
            case "mulhu":
                return (int) (unsignedA * unsignedB >>> 32);
            case "div":
                return b == 0 ? -1 : b == -1 ? -a : a / b;
            case "divu":
                return b == 0 ? -1 : (int) (unsignedA / unsignedB);
            case "rem":
                return b == 0 ? a : b == -1 ? 0 : a % b;
            case "remu":
                return b == 0 ? a : (int) (unsignedA % unsignedB);
            default:
                throw new AssertionError(name);
        }
    }
}
