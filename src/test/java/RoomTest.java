import java.nio.charset.StandardCharsets;

/** Texts of 32768 characters that fill one row or another: nothing but a FAULT or a machine comes of them. */
public final class RoomTest {
    private static final Check CHECK = new Check();
    private static final String HEAD = "bits 8;reg p:8;reg q:1;file f:8[4];op o\"0000abcc\"{";

    public static void main(String[] args) {
        // The Reference goes as deep as a text says; the program doesn't.
        Thread deep = new Thread(null, RoomTest::all, "deep", 1L << 29);
        deep.setUncaughtExceptionHandler((thread, e) -> {
            e.printStackTrace();
            System.exit(1);
        });
        deep.start();
    }

    private static void all() {
        CHECK.sentence("All memory is the class's own rows; what is made of a TEXT is bounded by its length.");
        String[] more = {";", "(", "[", "{", "-", "~", "x", "x ", "ab ", "8", "8 ", "0x", "\"", "\"\"", "#", "#\n", " ", "\n",
            "?", "'", ">", "<", "=", "reg a:1;", "let a=p;", "op a\"\"{}", "if q{", "if q{}", "if q{}else ", "p=p;", "p[", "f[p]=",
            "trap 1;", "file a:8[1];", "bits 8;", "\u0000", "\u00ff"};
        for (String s : more) {
            compare(fill("", s));
            compare(fill("bits 8;", s));
            compare(fill(HEAD, s));
            compare(fill(HEAD + "p=", s));
            compare(fill(HEAD + "p=p+", s));
        }
        String[] exprs = {"p+", "p|", "q?p:", "(p)+", "p<<", "p*p+p<<p<p==p&p^p|", "f[p]+", "{p}+", "sx(p,8)+", "-p+", "p[7:0]+", "8'1+"};
        for (String s : exprs) {
            String body = fill(HEAD + "p=", s, 32768 - 3);
            compare(body + "p;}");
            compare(body.substring(0, body.lastIndexOf(s)) + "p;}");
        }
        compare(fill("bits 8;op o\"", "a"));
        compare(fill("bits 8;op o\"", "a", 32765) + "\"{}");
        compare(fill(HEAD, "p=p;", 32767) + "}");
        compare(fill(HEAD, "if q{}", 32767) + "}");
        compare(fill(HEAD, "if q{}else ", 32765) + "{}}");
        compare(manyNames());
        compare(fill("bits 8;#", "remark"));
        String[] lasts = {"abc", "_", "123", "0", "0x", "0x1", "\"", "\"01", "\"01\"", ">", ">>", "<", "<=", "=", "!", "#", "'", "{"};
        for (String last : lasts) {
            compare(" ".repeat(32768 - last.length()) + last);
            compare("bits 8;" + " ".repeat(32761 - last.length()) + last);
        }
        CHECK.finish();
    }

    private static String fill(String head, String more) {
        return fill(head, more, 32768);
    }

    private static String fill(String head, String more, int length) {
        StringBuilder b = new StringBuilder(head);
        while (b.length() < length) {
            b.append(more);
        }
        b.setLength(length);
        return b.toString();
    }

    /** As many different NAMES as there's room for. */
    private static String manyNames() {
        StringBuilder b = new StringBuilder("bits 8;");
        String letters = "abcdefghijklmnopqrstuvwxyzABCDEFGHIJKLMNOPQRSTUVWXYZ_";
        for (int i = 0; b.length() < 32768; i++) {
            b.append(letters.charAt(i % 53)).append(letters.charAt(i / 53 % 53)).append(i < 2809 ? "" : letters.charAt(i / 2809 % 53) + "").append('+');
        }
        b.setLength(32768);
        return b.toString();
    }

    private static void compare(String text) {
        Reference due = new Reference(text.getBytes(StandardCharsets.ISO_8859_1));
        MachineLoom loom = new MachineLoom();
        int answer = -1;
        try {
            answer = Check.build(loom, text);
        } catch (IllegalStateException e) {
            // Told by fault.
        }
        String shown = text.substring(0, 100) + ".." + text.substring(text.length() - 20);
        CHECK.due("build of " + shown, answer, due.fault == 0 ? due.ops.size() : -1);
        CHECK.due("fault(0) of " + shown, loom.fault(0), due.fault);
        CHECK.due("fault(1) of " + shown, loom.fault(1), due.place);
        if (due.fault == 0) {
            due.reset();
            CHECK.due("step of " + shown, loom.step(0), due.step(0));
        }
    }
}
