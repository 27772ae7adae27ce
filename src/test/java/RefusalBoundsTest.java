import java.util.ArrayList;
import java.util.List;
import java.util.NoSuchElementException;
import java.util.concurrent.Callable;

/** Boundary cases that are of all promises: what is refused, in which order, and 512 calls: a test for each sentence. */
public final class RefusalBoundsTest {
    private static final Check CHECK = new Check();
    private static final String TEXT = "bits 8; reg pc: 8; reg w: 64; file m: 8[6] zero; fetch pc from m;"
            + " op a \"0000aaaa\" { w = w + 64'1; } op b \"0001bbbb\" { m[b] = 8'7; } op t \"11111111\" { w = 64'0; trap 6; }";

    public static void main(String[] args) {
        bads();
        nothingChanged();
        nothingChangedWithoutFetch();
        nothingChangedWhenFull();
        faultChangesJustInput();
        firstNamedIsThrown();
        manyCalls();
        machines();
        CHECK.finish();
    }

    private static Callable<?> poke(MachineLoom loom, int t, int i) {
        return () -> {
            loom.poke(t, i, -1);
            return null;
        };
    }

    /** A machine at work: it has done STEPS, had TRAPS and a FAULT, and stands in the middle of a next text. */
    private static MachineLoom busy() {
        MachineLoom loom = Check.of(TEXT);
        Check.build(loom, TEXT);
        CHECK.thrown("a FAULT", IllegalStateException.class,
                () -> Check.build(loom, "bits 8; op a \"0.......\" {} op b \"1.......\" {} op c \"1111....\" {}"));
        loom.poke(2, 1, 3);
        loom.poke(2, 2, 0x13);
        loom.poke(2, 4, 255);
        loom.run(500);
        loom.poke(1, 0, Long.MIN_VALUE);
        Check.feed(loom, "bits 16; reg r: 9;");
        return loom;
    }

    /** All that can be asked of it. */
    private static List<Long> state(MachineLoom loom) {
        List<Long> all = new ArrayList<>();
        for (int what = 0; what < 8; what++) {
            all.add((long) loom.count(what));
        }
        for (int what = 0; what < 3; what++) {
            all.add((long) loom.fault(what));
        }
        all.add((long) loom.trap());
        all.add(loom.free());
        for (int t = 0; t < loom.count(2); t++) {
            all.add((long) loom.thing(t, 0));
            all.add((long) loom.thing(t, 1));
            for (int i = 0; i < Math.max(1, loom.thing(t, 1)); i++) {
                all.add(loom.peek(t, i));
            }
        }
        for (int word = 0; word < 256; word++) {
            all.add((long) loom.decode(word));
        }
        return all;
    }

    private static void refused(MachineLoom loom, String what, Class<? extends RuntimeException> due, Callable<?> call) {
        List<Long> before = state(loom);
        CHECK.thrown(what, due, call);
        CHECK.due("the state behind " + what + " is the same", state(loom).equals(before) ? 1 : 0, 1);
    }

    private static void bads() {
        CHECK.sentence("\"Bad\" is IllegalArgumentException, a number out of range.");
        MachineLoom loom = busy();
        for (int n : new int[] {-1, 19, Integer.MIN_VALUE, Integer.MAX_VALUE}) {
            CHECK.thrown("end(" + n + ")", IllegalArgumentException.class, () -> loom.end(n));
        }
        for (int what : new int[] {-1, 3, Integer.MIN_VALUE, Integer.MAX_VALUE}) {
            CHECK.thrown("fault(" + what + ")", IllegalArgumentException.class, () -> loom.fault(what));
        }
        for (int n : new int[] {-1, 0, 501, Integer.MIN_VALUE, Integer.MAX_VALUE}) {
            CHECK.thrown("run(" + n + ")", IllegalArgumentException.class, () -> loom.run(n));
        }
        for (int what : new int[] {-1, 2, Integer.MIN_VALUE, Integer.MAX_VALUE}) {
            CHECK.thrown("thing(0, " + what + ")", IllegalArgumentException.class, () -> loom.thing(0, what));
        }
    }

    private static void nothingChanged() {
        CHECK.sentence("A refused call changes nothing.");
        MachineLoom loom = busy();
        refused(loom, "end(-1)", IllegalArgumentException.class, () -> loom.end(-1));
        refused(loom, "end(19)", IllegalArgumentException.class, () -> loom.end(19));
        refused(loom, "fault(3)", IllegalArgumentException.class, () -> loom.fault(3));
        refused(loom, "fault(-1)", IllegalArgumentException.class, () -> loom.fault(-1));
        refused(loom, "field(3)", NoSuchElementException.class, () -> loom.field(3, 'a', 0));
        refused(loom, "field(-1)", NoSuchElementException.class, () -> loom.field(-1, 'a', 0));
        refused(loom, "field(0, b)", NoSuchElementException.class, () -> loom.field(0, 'b', 0));
        refused(loom, "poke(0, 1)", NoSuchElementException.class, poke(loom, 0, 1));
        refused(loom, "poke(1, -1)", NoSuchElementException.class, poke(loom, 1, -1));
        refused(loom, "poke(2, 6)", NoSuchElementException.class, poke(loom, 2, 6));
        refused(loom, "poke(2, -1)", NoSuchElementException.class, poke(loom, 2, -1));
        refused(loom, "poke(3, 0)", NoSuchElementException.class, poke(loom, 3, 0));
        refused(loom, "peek(2, 6)", NoSuchElementException.class, () -> loom.peek(2, 6));
        refused(loom, "peek(3, 0)", NoSuchElementException.class, () -> loom.peek(3, 0));
        refused(loom, "run(0)", IllegalArgumentException.class, () -> loom.run(0));
        refused(loom, "run(501)", IllegalArgumentException.class, () -> loom.run(501));
        refused(loom, "thing(0, 2)", IllegalArgumentException.class, () -> loom.thing(0, 2));
        refused(loom, "thing(3, 0)", NoSuchElementException.class, () -> loom.thing(3, 0));
        CHECK.due("INPUT is as it was", loom.build(), 0);
        CHECK.due("WIDTH of r", loom.thing(0, 0), 9);
    }

    private static void nothingChangedWithoutFetch() {
        MachineLoom loom = Check.of(TEXT.replace("fetch pc from m;", ""));
        loom.step(0);
        loom.step(255);
        Check.feed(loom, "bits 16; reg r: 9;");
        refused(loom, "run(1)", IllegalStateException.class, () -> loom.run(1));
        refused(loom, "run(500)", IllegalStateException.class, () -> loom.run(500));
        refused(loom, "run(0)", IllegalArgumentException.class, () -> loom.run(0));
        CHECK.due("INPUT is as it was", loom.build(), 0);
    }

    private static void nothingChangedWhenFull() {
        MachineLoom loom = Check.of(TEXT);
        loom.step(0);
        Check.feed(loom, "bits 16; reg r: 9;" + "#".repeat(32731));
        refused(loom, "feed at 32749", IndexOutOfBoundsException.class, () -> loom.feed(0x0a0a0a0a, -1, -1, -1, -1));
        CHECK.due("count(0)", loom.count(0), 32749);
        CHECK.due("INPUT is as it was", loom.build(), 0);
        CHECK.due("WIDTH of r", loom.thing(0, 0), 9);
    }

    private static void faultChangesJustInput() {
        CHECK.sentence("INPUT is read as a TEXT, and empty then (also with a FAULT)");
        for (String wrong : new String[] {"", "$", "bits 16; reg r: 65;", "bits 16; op a \"\" {}", "bits 8; op a \"........\" {} op b \"........\" {}"}) {
            MachineLoom loom = busy();
            loom.end(18);
            List<Long> before = state(loom);
            CHECK.thrown(wrong, IllegalStateException.class, () -> Check.build(loom, wrong));
            List<Long> after = state(loom);
            // The three answers of fault stand behind the eight of count.
            for (int i = 0; i < before.size(); i++) {
                if (i < 8 || i > 10) {
                    CHECK.due("answer " + i + " behind " + wrong, after.get(i), before.get(i));
                }
            }
        }
    }

    private static void firstNamedIsThrown() {
        CHECK.sentence("Of several exceptions of a call the one that its words name first is thrown, if they do not say otherwise.");
        MachineLoom loom = new MachineLoom();
        CHECK.thrown("thing: bad, before", IllegalArgumentException.class, () -> loom.thing(0, 2));
        CHECK.thrown("thing: bad, before", IllegalArgumentException.class, () -> loom.thing(-1, -1));
        CHECK.thrown("thing: not there", NoSuchElementException.class, () -> loom.thing(0, 0));
        CHECK.thrown("run: bad, before", IllegalArgumentException.class, () -> loom.run(0));
        CHECK.thrown("run: bad, before", IllegalArgumentException.class, () -> loom.run(501));
        CHECK.thrown("run: no fetch", IllegalStateException.class, () -> loom.run(1));
    }

    private static void manyCalls() {
        CHECK.sentence("An object is used for at most 512 calls after it has been made");
        // As long a text as can be fed and built and used with 512 calls: 509 times twenty bytes.
        StringBuilder text = new StringBuilder("bits 8;reg p:8;op o\"........\"{");
        int sums = (10180 - text.length() - 1) / 8;
        text.append("p=p+8'1;".repeat(sums)).append("}");
        text.append(" ".repeat(10180 - text.length()));
        MachineLoom loom = new MachineLoom();
        Check.feed(loom, text.toString());
        CHECK.due("fed", loom.count(0), 10180);
        CHECK.due("build", loom.build(), 1);
        CHECK.due("step", loom.step(0), 0);
        CHECK.due("peek", loom.peek(0, 0), sums & 255);
        for (int turn = 0; turn < 20; turn++) {
            Check.feed(loom, text.toString());
            CHECK.due("build again", loom.build(), 1);
            CHECK.due("step", loom.step(0), 0);
            CHECK.due("peek", loom.peek(0, 0), sums & 255);
        }
        // Each call 512 times on one object.
        MachineLoom many = new MachineLoom();
        for (int i = 0; i < 512; i++) {
            CHECK.due("ship", many.ship(), 48);
        }
        for (int i = 0; i < 512; i++) {
            CHECK.due("run", many.run(500), 0);
            CHECK.due("TRAPS", many.count(6), i + 1);
        }
        MachineLoom built = new MachineLoom();
        for (int i = 0; i < 256; i++) {
            Check.feed(built, i % 3 == 2 ? "bits 9;" : "bits 8;");
            if (i % 3 == 2) {
                CHECK.thrown("build", IllegalStateException.class, built::build);
            } else {
                CHECK.due("build", built.build(), 0);
            }
        }
        MachineLoom long500 = Check.of("bits 8; reg pc: 8; file m: 8[1]; fetch pc from m; op o \"........\" { pc = 8'0; }");
        for (int i = 0; i < 500; i++) {
            CHECK.due("run", long500.run(500), 500);
        }
        CHECK.due("STEPS", long500.count(5), 250000);
    }

    private static void machines() {
        CHECK.sentence("THE MACHINE: that of the latest TEXT without FAULTS, or the shipped one");
        MachineLoom loom = new MachineLoom();
        CHECK.due("the first one", loom.count(1), 8);
        Check.build(loom, "bits 16; reg p: 8;");
        CHECK.due("of a TEXT", loom.count(1), 16);
        loom.ship();
        CHECK.due("the shipped one", loom.count(1), 32);
        CHECK.thrown("a FAULT", IllegalStateException.class, () -> Check.build(loom, "bits 64"));
        CHECK.due("the shipped one still", loom.count(1), 32);
        Check.build(loom, "bits 64;");
        CHECK.due("of a TEXT", loom.count(1), 64);
        CHECK.due("THINGS", loom.count(2), 0);
        CHECK.thrown("a FAULT", IllegalStateException.class, () -> Check.build(loom, "bits 16; reg p: 8; reg p: 8;"));
        CHECK.due("of the TEXT before", loom.count(1), 64);
        CHECK.due("THINGS", loom.count(2), 0);
        Check.build(loom, "bits 8; reg p: 8; reg q: 8;");
        CHECK.due("of the latest", loom.count(2), 2);
        loom.ship();
        CHECK.due("the shipped one", loom.count(2), 3);
        loom.ship();
        CHECK.due("the shipped one", loom.count(2), 3);
    }
}
