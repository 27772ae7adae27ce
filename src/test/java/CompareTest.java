import java.nio.charset.StandardCharsets;
import java.util.Random;

/** Promises 4, 6 to 16 on texts by chance: every answer is compared with that of the Reference. */
public final class CompareTest {
    private final Check check = new Check();
    private final int[] faults = new int[8];
    private int traps;
    private int steps;

    public static void main(String[] args) {
        int rounds = args.length > 0 ? Integer.parseInt(args[0]) : 1500;
        long seed = args.length > 1 ? Long.parseLong(args[1]) : 1;
        CompareTest test = new CompareTest();
        for (int i = 0; i < rounds && test.check.wrongSoFar() < 5; i++) {
            test.round(new Random(seed * 1000003 + i));
        }
        for (int number = 0; number < 8; number++) {
            System.out.println("fault " + number + ": " + test.faults[number]);
            test.check.due("texts by chance have fault " + number, test.faults[number] > 0 || number == 6 ? 1 : 0, 1);
        }
        System.out.println(test.steps + " steps, " + test.traps + " traps");
        test.check.finish();
    }

    private void round(Random random) {
        Texts texts = new Texts(random);
        texts.make();
        String text = texts.text();
        if (text.length() > 4000) {
            return;
        }
        MachineLoom loom = new MachineLoom();
        Reference right = compareBuild(loom, text);
        if (right.fault == 0) {
            compareMachine(loom, right, texts, random);
        }
        // One object for several texts: nothing of one may be left in the next.
        MachineLoom other = new MachineLoom();
        for (int i = 0; i < 4 && text.length() < 2000; i++) {
            compareSpoilt(other, texts.spoiltMeaning());
        }
        compareSpoilt(new MachineLoom(), texts.spoilCharacter(text));
        compareSpoilt(new MachineLoom(), text.substring(0, random.nextInt(text.length())));
        texts.spoil();
        compareSpoilt(new MachineLoom(), texts.text());
    }

    private void compareSpoilt(MachineLoom loom, String text) {
        compareBuild(loom, text.substring(0, Math.min(text.length(), 5000)));
    }

    private Reference compareBuild(MachineLoom loom, String text) {
        Reference due = new Reference(text.getBytes(StandardCharsets.ISO_8859_1));
        int[] before = {loom.fault(0), loom.fault(1), loom.fault(2)};
        int answer = -1;
        try {
            answer = Check.build(loom, text);
        } catch (IllegalStateException e) {
            // Told by fault.
        }
        faults[due.fault]++;
        check.due("build of " + text, answer, due.fault == 0 ? due.ops.size() : -1);
        boolean right = due.fault == 0;
        check.due("fault(0) of " + text, loom.fault(0), right ? before[0] : due.fault);
        check.due("fault(1) of " + text, loom.fault(1), right ? before[1] : due.place);
        check.due("fault(2) of " + text, loom.fault(2), right ? before[2] : due.other);
        return due;
    }

    private void compareMachine(MachineLoom loom, Reference due, Texts texts, Random random) {
        due.reset();
        check.due("LENGTH", loom.count(1), due.length);
        check.due("THINGS", loom.count(2), due.things.size());
        check.due("cells", loom.count(3), due.allCells());
        check.due("ops", loom.count(4), due.ops.size());
        check.due("free", loom.free(), due.free());
        for (Reference.Thing t : due.things) {
            check.due("WIDTH", loom.thing(t.number, 0), t.width);
            check.due("cells", loom.thing(t.number, 1), t.isFile ? t.cells : 0);
            for (int i = 0; i < Math.min(3, due.values[t.number].length); i++) {
                long v = random.nextInt(3) == 0 ? random.nextInt(5) : random.nextLong();
                poke(loom, due, t, i, v);
            }
        }
        int done = 0;
        int trapped = 0;
        for (int i = 0; i < 12; i++) {
            long word = texts.word();
            check.due("decode", loom.decode(word), due.decode(word));
            int op = random.nextInt(due.ops.size());
            char letter = (char) ('a' + random.nextInt(26));
            if (due.hasField(op, letter)) {
                check.due("field", loom.field(op, letter, word), due.field(op, letter, word));
            }
            int trap = due.step(word);
            check.due("step", loom.step(word), trap);
            check.due("trap", loom.trap(), trap);
            done += trap == 0 ? 1 : 0;
            trapped += trap == 0 ? 0 : 1;
            compareValues(loom, due, random);
        }
        if (due.fetchFile != null) {
            done += compareRun(loom, due, texts, random);
            trapped += loom.trap() == 0 ? 0 : 1;
        }
        steps += done;
        traps += trapped;
        check.due("STEPS done", loom.count(5), done);
        check.due("TRAPS", loom.count(6), trapped);
        check.due("count(7)", loom.count(7), 0);
    }

    private int compareRun(MachineLoom loom, Reference due, Texts texts, Random random) {
        int bytes = due.length / 8;
        for (int from = 0; from + bytes <= Math.min(24, due.fetchFile.cells); from += bytes) {
            long word = texts.word();
            for (int i = 0; i < bytes; i++) {
                poke(loom, due, due.fetchFile, from + i, word >>> 8 * i);
            }
        }
        poke(loom, due, due.fetchRegister, 0, 0);
        int most = 1 + random.nextInt(20);
        int steps = 0;
        int trap = 0;
        while (steps < most && trap == 0) {
            trap = due.runOne();
            steps += trap == 0 ? 1 : 0;
        }
        check.due("run", loom.run(most), steps);
        check.due("trap", loom.trap(), trap);
        compareValues(loom, due, random);
        return steps;
    }

    private static void poke(MachineLoom loom, Reference due, Reference.Thing t, int i, long v) {
        loom.poke(t.number, i, v);
        if (i > 0 || !t.zero) {
            due.values[t.number][i] = Reference.cutTo(java.math.BigInteger.valueOf(v), t.width);
        }
    }

    private void compareValues(MachineLoom loom, Reference due, Random random) {
        for (Reference.Thing t : due.things) {
            int cells = due.values[t.number].length;
            for (int i = 0; i < cells; i++) {
                check.due("peek(" + t.number + ", " + i + ")", loom.peek(t.number, i), due.values[t.number][i].longValue());
            }
        }
    }
}
