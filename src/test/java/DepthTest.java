/** Promise 4: DEPTH. The TOKEN with which it would be 61 is the wrong one, and 60 are right. */
public final class DepthTest {
    private static final Check CHECK = new Check();
    // The { of the BLOCK is one already.
    private static final String HEAD = "bits 8; reg p: 8; reg q: 1; file f: 8[4]; op o \"0000abcc\" { ";

    public static void main(String[] args) {
        brackets();
        signs();
        choices();
        blocks();
        mixed();
        CHECK.finish();
    }

    private static String times(String s, int n) {
        return s.repeat(n);
    }

    private static void wrong(String doings) {
        CHECK.fault(HEAD + doings, 1);
    }

    private static void right(String doings) {
        CHECK.right(HEAD + doings + " }");
    }

    private static void brackets() {
        right("p = " + times("(", 59) + "p" + times(")", 59) + ";");
        wrong("p = " + times("(", 59) + "`(p" + times(")", 60) + ";");
        wrong("p = " + times("(", 59) + "`(");
        wrong("p = " + times("(", 59) + "p`");
        right("p = " + times("{", 59) + "p" + times("}", 59) + ";");
        wrong("p = " + times("{", 59) + "`{p");
        right("p = " + times("f[", 59) + "p" + times("]", 59) + ";");
        wrong("p = " + times("f[", 59) + "f`[p");
        right("p = " + times("sx(", 59) + "p" + times(", 8)", 59) + ";");
        wrong("p = " + times("sx(", 59) + "sx`(p");
        right("p = " + times("sra(p, ", 59) + "p" + times(")", 59) + ";");
        wrong("p = " + times("sra(p, ", 59) + "sdiv`(p");
        // Closed ones don't count any more.
        right("p = " + times("(", 59) + "p" + times(")", 59) + "+" + times("(", 59) + "p" + times(")", 59) + ";");
        right("p = " + times("(", 58) + "p[7:0][7:0]" + times(")", 58) + ";");
        right("p = " + times("(", 58) + "p" + times(")", 58) + times("[7:0]", 100) + ";");
        wrong("p = " + times("(", 59) + "p`[7:0]");
        right(times("p = (p);", 100));
        right("f[" + times("(", 58) + "p" + times(")", 58) + "] = p;");
        wrong("f[" + times("(", 58) + "`(p");
    }

    private static void signs() {
        right("p = " + times("-", 59) + "p;");
        wrong("p = " + times("-", 59) + "`-p;");
        right("q = " + times("!", 59) + "q;");
        wrong("q = " + times("~!", 29) + "~`!q;");
        // A UNARY is over behind its POST, and not before.
        right("p = " + times("-", 58) + "p[7:0];");
        wrong("p = " + times("-", 59) + "p`[7:0];");
        right("p = " + times("-", 59) + "p + " + times("-", 59) + "p * " + times("-", 59) + "p;");
        right("p = q ? " + times("-", 58) + "p : " + times("~", 58) + "p;");
        right("p = " + times("-(", 29) + "-p" + times(")", 29) + ";");
        wrong("p = " + times("-(", 29) + "-`(p");
    }

    private static void choices() {
        right("p = " + times("q ? p : ", 59) + "p;");
        wrong("p = " + times("q ? p : ", 59) + "q `? p : p;");
        right("p = " + times("q ? ", 59) + "p" + times(" : p", 59) + ";");
        wrong("p = " + times("q ? ", 59) + "q `? p");
        // A CHOICE is over with the bracket around it.
        right("p = " + times("(q ? p : p) + ", 100) + "p;");
        right("p = {" + times("q ? q : q, ", 7) + "q};");
        right("p = q ? " + times("(", 58) + "p" + times(")", 58) + " : " + times("(", 58) + "p" + times(")", 58) + ";");
        wrong("p = q ? p : " + times("(", 58) + "`(p");
        // Inside the middle part a whole CHOICE is over at the ':'.
        right("p = " + times("q ? (q ? p : p) : ", 57) + "p;");
        wrong("p = " + times("q ? (q ? p : p) : ", 57) + "q ? (q `? p : p) : p;");
        right("p = q ? " + times("q ? p : ", 58) + "p : p;");
        right("p = q ? " + times("q ? p : ", 58) + "p : " + times("q ? p : ", 58) + "p;");
        wrong("p = q ? " + times("q ? p : ", 58) + "q `? p : p");
        wrong("p = q ? p : " + times("q ? p : ", 58) + "q `? p : p");
        right("if " + times("q ? q : ", 59) + "q { }");
        right(times("p = q ? p : p;", 100));
    }

    private static void blocks() {
        right(times("if q { ", 59) + times("}", 59));
        wrong(times("if q { ", 59) + "if q `{ ");
        right(times("if q { ", 58) + "p = (p);" + times("}", 58));
        wrong(times("if q { ", 59) + "p = `(p);");
        wrong(times("if q { ", 59) + "f`[p] = p;");
        right(times("if q { } else ", 100) + "{ }");
        right(times("if q { } else { ", 59) + times("}", 59));
        wrong(times("if q { } else { ", 59) + "if q `{ ");
        wrong(times("if q { } else { ", 58) + "if q { } else if q { if q `{");
    }

    private static void mixed() {
        right("if q { p = " + times("(-{q ? f[sx(", 9) + "(((p)))" + times(", 8)] : p})", 9) + "; }");
        right("if q { p = " + times("(-{q ? f[sx(", 9) + "((((p))))" + times(", 8)] : p})", 9) + "; }");
        wrong("if q { p = " + times("(-{q ? f[sx(", 9) + "((((`(p))))" + times(", 8)] : p})", 9) + "; }");
        // Of two wrong TOKENS the first one is told.
        wrong("p `p; p = " + times("(", 80));
        // MEANING waits.
        wrong("z = z; p = " + times("(", 59) + "`(");
    }
}
