import java.nio.charset.StandardCharsets;
import java.util.concurrent.Callable;

/** What all tests use: feeding texts, comparing answers, and the exit code. */
final class Check {
    private int wrong;
    private int looked;
    private String sentence = "";
    private int sentences;
    private int lookedBefore;

    /** What is looked at from here on is a test of that sentence of the document. */
    void sentence(String words) {
        endSentence();
        sentence = words;
        sentences++;
        lookedBefore = looked;
    }

    /** A sentence without any answer has no test. */
    private void endSentence() {
        if (!sentence.isEmpty() && looked == lookedBefore) {
            say("nothing was looked at");
        }
    }

    private void say(String what) {
        wrong++;
        System.out.println(sentence.isEmpty() ? what : "[" + sentence + "] " + what);
    }

    /** An answer that is due. */
    void due(String what, long is, long due) {
        looked++;
        if (is != due) {
            say(what + " is " + is + ", due is " + due);
        }
    }

    /** An exception that is due, of just that class. */
    void thrown(String what, Class<? extends RuntimeException> due, Callable<?> call) {
        looked++;
        Class<?> got = null;
        try {
            call.call();
        } catch (Exception e) {
            got = e.getClass();
        }
        if (got != due) {
            say(what + " throws " + got + ", due is " + due);
        }
    }

    void finish() {
        endSentence();
        String of = sentences == 0 ? "" : " of " + sentences + " sentences";
        System.out.println(looked + " answers" + of + " looked at, " + wrong + " wrong");
        System.exit(wrong == 0 && looked > 0 ? 0 : 1);
    }

    int wrongSoFar() {
        return wrong;
    }

    static void feed(MachineLoom loom, String text) {
        feed(loom, text.getBytes(StandardCharsets.ISO_8859_1));
    }

    /** Twenty bytes at a time, the first ones fewer, so that INPUT can be filled to its last byte. */
    static void feed(MachineLoom loom, byte[] bytes) {
        int few = bytes.length % 20;
        if (few > 0) {
            feedTwenty(loom, bytes, 0);
            loom.end(20 - few);
        }
        for (int at = few; at < bytes.length; at += 20) {
            feedTwenty(loom, bytes, at);
        }
    }

    private static void feedTwenty(MachineLoom loom, byte[] bytes, int at) {
        int[] numbers = new int[5];
        for (int i = 0; i < 20; i++) {
            int value = at + i < bytes.length ? bytes[at + i] & 255 : 0;
            numbers[i / 4] = numbers[i / 4] << 8 | value;
        }
        loom.feed(numbers[0], numbers[1], numbers[2], numbers[3], numbers[4]);
    }

    static int build(MachineLoom loom, String text) {
        feed(loom, text);
        return loom.build();
    }

    /** A new object with that text built. */
    static MachineLoom of(String text) {
        MachineLoom loom = new MachineLoom();
        build(loom, text);
        return loom;
    }

    /** The text is refused with that fault; a stroke ` in it stands before THE PLACE and isn't fed. */
    void fault(String text, int number) {
        int place = text.indexOf('`');
        String fed = place < 0 ? text : text.substring(0, place) + text.substring(place + 1);
        fault(fed, number, place, -1);
    }

    void fault(String text, int number, int place, int other) {
        MachineLoom loom = new MachineLoom();
        String shown = text.length() > 300 ? text.substring(0, 300) + ".." : text;
        thrown(shown, IllegalStateException.class, () -> build(loom, text));
        due("fault(0) of " + shown, loom.fault(0), number);
        due("fault(1) of " + shown, loom.fault(1), place);
        due("fault(2) of " + shown, loom.fault(2), other);
        due("count(0) of " + shown, loom.count(0), 0);
    }

    /** The text has no FAULT. */
    void right(String text) {
        MachineLoom loom = new MachineLoom();
        String shown = text.length() > 300 ? text.substring(0, 300) + ".." : text;
        try {
            build(loom, text);
        } catch (IllegalStateException e) {
            // What the fault is follows.
        }
        due("fault(0) of " + shown, loom.fault(0), 0);
        due("fault(1) of " + shown, loom.fault(1), -1);
    }
}
