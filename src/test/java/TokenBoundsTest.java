import java.util.Arrays;

/** Boundary cases of INPUT, SPACES and TOKENS, and of promises 1 to 3: a test for each sentence. */
public final class TokenBoundsTest {
    private static final Check CHECK = new Check();
    private static final String LETTERS = "abcdefghijklmnopqrstuvwxyzABCDEFGHIJKLMNOPQRSTUVWXYZ";
    private static final String DIGITS = "0123456789";
    private static final String HEX = "0123456789abcdefABCDEF";

    public static void main(String[] args) {
        newObject();
        feeds();
        feedsTooMuch();
        ends();
        endsTooMuch();
        spaces();
        remarks();
        tokensGoAsFar();
        signs();
        names();
        tooLongNames();
        decimals();
        hexes();
        tooLargeNumbers();
        lettersBehindNumbers();
        codes();
        CHECK.finish();
    }

    private static void wrong(String text, int place) {
        CHECK.fault(text, 1, place, -1);
    }

    private static boolean isIn(String row, char c) {
        return row.indexOf(c) >= 0;
    }

    private static void newObject() {
        CHECK.sentence("INPUT is empty, no FAULT was there.");
        MachineLoom loom = new MachineLoom();
        CHECK.due("count(0)", loom.count(0), 0);
        CHECK.due("end(0)", loom.end(0), 0);
        CHECK.due("fault(0)", loom.fault(0), 0);
        CHECK.due("fault(1)", loom.fault(1), -1);
        CHECK.due("fault(2)", loom.fault(2), -1);
        CHECK.thrown("build of nothing", IllegalStateException.class, loom::build);
        CHECK.due("fault(0)", loom.fault(0), 1);
        CHECK.due("fault(1)", loom.fault(1), 0);
    }

    private static void feeds() {
        CHECK.sentence("INPUT gets the twenty bytes of the numbers more, of each the highest first.");
        // Twenty different bytes, of which just the place of the one that is no SPACE is told.
        for (int at = 0; at < 20; at++) {
            int[] numbers = new int[5];
            Arrays.fill(numbers, 0x20202020);
            int shift = 24 - 8 * (at % 4);
            numbers[at / 4] = numbers[at / 4] & ~(255 << shift) | 0xff << shift;
            MachineLoom loom = new MachineLoom();
            CHECK.due("feed", loom.feed(numbers[0], numbers[1], numbers[2], numbers[3], numbers[4]), 20);
            CHECK.thrown("build", IllegalStateException.class, loom::build);
            CHECK.due("THE PLACE", loom.fault(1), at);
        }
        // Bytes of 0 and of 255 are CHARACTERS as well.
        MachineLoom loom = new MachineLoom();
        CHECK.due("zeros", loom.feed(0, 0, 0, 0, 0), 20);
        CHECK.due("ones", loom.feed(-1, -1, -1, -1, -1), 40);
        CHECK.due("the least ones", loom.feed(Integer.MIN_VALUE, Integer.MIN_VALUE, 0, 0, 0), 60);
    }

    /** A full INPUT: a text at its beginning, and SPACES. */
    private static MachineLoom filled(int length) {
        MachineLoom loom = new MachineLoom();
        Check.feed(loom, "bits 8; reg p: 5;" + " ".repeat(length - 17));
        return loom;
    }

    private static void feedsTooMuch() {
        CHECK.sentence("INPUT: at most 32768 CHARACTERS (bytes), empty at first.");
        MachineLoom full = filled(32768);
        CHECK.due("count(0)", full.count(0), 32768);
        CHECK.due("all is read", full.build(), 0);
        CHECK.due("WIDTH of p", full.thing(0, 0), 5);
        CHECK.due("count(0)", full.count(0), 0);
        MachineLoom last = new MachineLoom();
        Check.feed(last, "bits 8;" + " ".repeat(32760) + "$");
        CHECK.thrown("the last CHARACTER is read, too", IllegalStateException.class, last::build);
        CHECK.due("THE PLACE", last.fault(1), 32767);
        CHECK.sentence("More than 32768: IndexOutOfBoundsException.");
        for (int length = 32745; length <= 32768; length++) {
            MachineLoom loom = filled(length);
            if (length <= 32748) {
                CHECK.due("feed", loom.feed(0x20202020, 0x20202020, 0x20202020, 0x20202020, 0x20202020), length + 20);
                continue;
            }
            CHECK.thrown("feed at " + length, IndexOutOfBoundsException.class, () -> loom.feed(-1, -1, -1, -1, -1));
            CHECK.due("a refused call changes nothing", loom.count(0), length);
            CHECK.due("a refused call changes nothing", loom.build(), 0);
            CHECK.due("WIDTH of p", loom.thing(0, 0), 5);
        }
        CHECK.sentence("Answers its length.");
        MachineLoom loom = new MachineLoom();
        for (int i = 1; i <= 40; i++) {
            CHECK.due("feed", loom.feed(i, i, i, i, i), 20 * i);
        }
        for (int i = 799; i >= 0; i--) {
            CHECK.due("end", loom.end(1), i);
        }
    }

    private static void ends() {
        CHECK.sentence("The last n bytes of INPUT go");
        // THE PLACE of what is left, by its length; -1: that is right.
        int[] places = {0, 0, 0, 0, 4, 5, 6, -1, -1, 8, 8, 11, 12, 13, 14, 15, 16, -1, -1, -1, -1};
        for (int n = 0; n <= 20; n++) {
            MachineLoom loom = new MachineLoom();
            Check.feed(loom, "bits 8; reg p: 5;   ");
            CHECK.due("end(" + n + ")", loom.end(n), 20 - n);
            if (places[20 - n] < 0) {
                CHECK.due("build", loom.build(), 0);
                CHECK.due("THINGS", loom.count(2), n <= 3 ? 1 : 0);
            } else {
                CHECK.thrown("build behind end(" + n + ")", IllegalStateException.class, loom::build);
                CHECK.due("THE PLACE", loom.fault(1), places[20 - n]);
            }
        }
        MachineLoom loom = new MachineLoom();
        Check.feed(loom, "bits 8;$$$$$$$$$$$$$");
        loom.end(13);
        loom.feed(0x72656720, 0x713a3131, 0x3b202020, 0x20202020, 0x20202020);
        CHECK.due("what is fed then stands behind what is left", loom.build(), 0);
        CHECK.due("WIDTH of q", loom.thing(0, 0), 11);
    }

    private static void endsTooMuch() {
        CHECK.sentence("(0 or more, as many must be there; else bad)");
        MachineLoom loom = new MachineLoom();
        CHECK.due("end(0) of an empty one", loom.end(0), 0);
        int[] always = {-1, -2, -20, Integer.MIN_VALUE, Integer.MAX_VALUE, 32769};
        for (int n : always) {
            CHECK.thrown("end(" + n + ") of an empty one", IllegalArgumentException.class, () -> loom.end(n));
        }
        CHECK.thrown("end(1) of an empty one", IllegalArgumentException.class, () -> loom.end(1));
        Check.feed(loom, "bits 8;             ");
        for (int n : always) {
            CHECK.thrown("end(" + n + ") of 20", IllegalArgumentException.class, () -> loom.end(n));
        }
        CHECK.thrown("end(21) of 20", IllegalArgumentException.class, () -> loom.end(21));
        CHECK.due("a refused call changes nothing", loom.count(0), 20);
        CHECK.due("end(13) of 20", loom.end(13), 7);
        CHECK.thrown("end(8) of 7", IllegalArgumentException.class, () -> loom.end(8));
        CHECK.due("a refused call changes nothing", loom.build(), 0);
        CHECK.thrown("build has emptied it", IllegalArgumentException.class, () -> loom.end(1));
        Check.feed(loom, "bits 8;");
        CHECK.due("end of all", loom.end(7), 0);
        MachineLoom full = filled(32768);
        CHECK.thrown("end(32769) of 32768", IllegalArgumentException.class, () -> full.end(32769));
        CHECK.due("end(32768) of 32768", full.end(32768), 0);
    }

    private static void spaces() {
        CHECK.sentence("SPACES: bytes 9, 10, 13, 32");
        for (char c = 0; c < 256; c++) {
            boolean space = c == 9 || c == 10 || c == 13 || c == 32;
            if (space) {
                CHECK.right("" + c + c + "bits" + c + "8" + c + c + ";" + c);
                CHECK.right("bits" + c + "8;reg" + c + "p:8;");
            } else if (c == '>' || c == '"') {
                wrong("bits 8;" + c + "\n", 8);
            } else if (c != '#') {
                wrong("bits 8;" + c + "\n", 7);
            }
        }
        // A SPACE ends a TOKEN, whichever it is.
        for (char c : new char[] {9, 10, 13, 32}) {
            wrong("bi" + c + "ts 8;", 0);
            wrong("bits 8; reg a" + c + "b: 8;", 14);
            wrong("bits 6" + c + "4;", 7);
        }
    }

    private static void remarks() {
        CHECK.sentence("a # and all behind it up to a byte 10 or the end is a SPACE, too.");
        for (char c = 0; c < 256; c++) {
            if (c == 10) {
                CHECK.right("bits 8;#" + c + "reg p: 8;");
                wrong("bits 8;#" + c + "$", 9);
            } else {
                CHECK.right("bits#" + c + "\n8;");
                CHECK.right("bits 8;#" + c);
                CHECK.right("bits 8;#" + c + "$>\"(");
            }
        }
        CHECK.right("bits 8;#");
        CHECK.right("#\n#\n\n##\nbits 8;#\n");
        CHECK.right("bits#\n8#\n;#");
        wrong("#bits 8;", 8);
        wrong("#", 1);
        wrong("bits 8#;", 8);
        wrong("bi#\nts 8;", 0);
        wrong("bits 8; op o \"0000#\n000\" {}", 18);
    }

    private static void tokensGoAsFar() {
        CHECK.sentence("TOKENS, with SPACES between them or none, each as long as it goes");
        String head = "bits 8;reg p:8;reg q:1;op o\"........\"{";
        CHECK.right(head + "q=p==p;q=p!=p;q=p<=p;p=p<<p;p=p>>p;q=p<p;q=!q;}");
        CHECK.right(head + "p = p << -p; p = p <<-p; q = p <= -p; q = p == -p; q = p != ~p; q = p<-p; }");
        // '= =' are two, '==' one; '<<=' is '<<' and '='.
        wrong(head + "q=p= =p;}", head.length() + 3);
        wrong(head + "q==p;}", head.length() + 1);
        wrong(head + "q=p===p;}", head.length() + 5);
        wrong(head + "p=p<<=p;}", head.length() + 5);
        wrong(head + "p=p<<<p;}", head.length() + 5);
        wrong(head + "p=p>>>>p;}", head.length() + 5);
        wrong(head + "p=p>>>p;}", head.length() + 6);
        wrong(head + "p=p< <p;}", head.length() + 5);
        wrong(head + "q=p< =p;}", head.length() + 5);
        wrong(head + "q=p! =p;}", head.length() + 3);
        wrong(head + "q=!=q;}", head.length() + 2);
        CHECK.right(head + "q=!!q;}");
        // A word is one just if it is the whole TOKEN.
        CHECK.right("bits 8;reg reg_:8;reg op1:8;reg bits8:8;reg iff:1;");
        wrong("bits8;", 0);
        wrong("bits 8;regp:8;", 7);
        wrong(head + "iff q{}}", head.length() + 4);
        CHECK.right(head + "if(q){}else{}}");
    }

    private static void signs() {
        CHECK.sentence("== != <= << >> ; { } ( ) [ ] = ; : , ? ' < + - * / % & | ^ ~ !.");
        // Each of them is wrong as an ITEM, at its own place, and does not hide a BROKEN one behind it.
        for (String sign : "== != <= << >> { } ( ) [ ] = ; : , ? ' < + - * / % & | ^ ~ !".split(" ")) {
            wrong("bits 8;" + sign + "$", 7);
            wrong("bits 8; " + sign, 8);
        }
        CHECK.sentence("(TOKENS are cut first: where a CHARACTER can't begin or go on one, that's the last TOKEN, BROKEN");
        wrong("bits 8;>", 8);
        wrong("bits 8;> >", 8);
        wrong("bits 8;>=", 8);
        wrong("bits 8;>\n", 8);
        for (char c = 0; c < 256; c++) {
            boolean begins = isIn(LETTERS + DIGITS + "_\"#{}()[];:,?'+-*/%&|^~=!<>\t\n\r ", c);
            if (!begins) {
                wrong("" + c, 0);
                wrong("bits 8; reg p" + c + "; ? ?", 13);
                wrong("bits 8; reg p: 8" + c, 16);
                wrong("bits 8; reg p: 8; op o \"........\" { p = p" + c + "p; }", 41);
            }
        }
    }

    private static void names() {
        CHECK.sentence("a NAME (a letter a .. z, A .. Z, or _, then any letters, digits, _");
        for (char c = 0; c < 256; c++) {
            boolean begins = isIn(LETTERS + "_", c);
            boolean goesOn = begins || isIn(DIGITS, c);
            if (begins) {
                CHECK.right("bits 8;reg " + c + ":8;");
                CHECK.right("bits 8;reg " + c + c + ":8;reg " + c + "0:8;");
            } else if (isIn(DIGITS, c)) {
                wrong("bits 8;reg " + c + ":8;", 11);
            }
            if (goesOn) {
                CHECK.right("bits 8;reg a" + c + ":8;reg a" + c + c + ":8;");
            } else if (c != ':' && c != '#' && c != '>' && c != '"' && c != 9 && c != 10 && c != 13 && c != 32) {
                wrong("bits 8;reg a" + c + ":8;", 12);
            }
        }
        // All letters of a NAME count, and whether they're great or small.
        CHECK.right("bits 8;reg abc:8;reg abC:8;reg Abc:8;reg ab:8;reg a_c:8;reg abc_:8;reg _abc:8;reg ab1:8;reg ab2:8;");
        CHECK.fault("bits 8;reg abc:8;reg abd:8;reg `abc:8;", 2);
    }

    private static void tooLongNames() {
        CHECK.sentence("at most 32 CHARACTERS)");
        String thirty = "n23456789012345678901234567890";
        for (String last : new String[] {"a", "_", "7", "Z"}) {
            CHECK.right("bits 8;reg " + thirty + last + ":8;");
            CHECK.right("bits 8;reg " + thirty + "x" + last + ":8;");
            wrong("bits 8;reg " + thirty + "xy" + last + ":8;", 43);
            wrong("bits 8;reg " + thirty + "xy" + last + last.repeat(200), 43);
        }
        // The 32nd letter counts.
        CHECK.right("bits 8;reg " + thirty + "xy:8;reg " + thirty + "xz:8;reg " + thirty + "x:8;");
        CHECK.fault("bits 8;reg " + thirty + "xy:8;reg `" + thirty + "xy:8;", 2);
        String longest = thirty + "xy";
        CHECK.right("bits 8;reg " + longest + ":8;op " + longest + "\"........\"{let b" + longest.substring(1) + "=" + longest + ";}");
        wrong("bits 8;op " + longest + "z\"........\"{}", 42);
        wrong("bits 8;reg p:8;op o\"........\"{let " + longest + "z=p;}", 66);
        wrong("bits 8;reg p:8;op o\"........\"{p=" + longest + "z;}", 64);
    }

    private static void decimals() {
        CHECK.sentence("a NUMBER (digits, or 0x and 1 to 16 digits 0 .. 9, a .. f, A .. F");
        for (char c = 0; c < 256; c++) {
            if (isIn(DIGITS, c)) {
                CHECK.right("bits 8;reg p:1" + c + ";");
            } else if (c == '/' || c == ':') {
                wrong("bits 8;reg p:1" + c + ";", 14);
            }
        }
        CHECK.right("bits 0008;reg p:064;reg q:" + "0".repeat(500) + "1;");
        MachineLoom loom = Check.of("bits 8;reg p:010;reg q:0x10;");
        CHECK.due("a 0 before it makes no other NUMBER", loom.thing(0, 0), 10);
        CHECK.due("0x10", loom.thing(1, 0), 16);
    }

    private static void hexes() {
        CHECK.sentence("0x and 1 to 16 digits");
        for (char c = 0; c < 256; c++) {
            if (isIn(HEX, c)) {
                CHECK.right("bits 8;reg p:4;op o\"........\"{p=4'0x" + c + ";}");
                MachineLoom loom = Check.of("bits 8;reg p:12;op o\"........\"{p=12'0x1" + c + "0;}");
                loom.step(0);
                CHECK.due("0x1" + c + "0", loom.peek(0, 0), 256 + 16 * Character.digit(c, 16));
            } else {
                wrong("bits 8;reg p:0x" + c, 15);
            }
        }
        wrong("bits 0x", 7);
        wrong("bits 0x;", 7);
        wrong("bits 0x 8;", 7);
        wrong("bits 0X8;", 6);
        wrong("bits 00x8;", 7);
        wrong("bits 1x8;", 6);
        for (int zeros = 0; zeros <= 15; zeros++) {
            CHECK.right("bits 0x" + "0".repeat(zeros) + "8;");
        }
        wrong("bits 0x" + "0".repeat(16) + "8;", 23);
        wrong("bits 0x" + "f".repeat(17) + ";", 23);
        wrong("bits 0x" + "0".repeat(16) + "g;", 23);
        CHECK.fault("bits `0x" + "f".repeat(16) + ";", 3);
    }

    private static void tooLargeNumbers() {
        CHECK.sentence("below 2^64, the digit that makes it more can't go on");
        String head = "bits 8;reg p:64;op o\"........\"{p=64'";
        CHECK.right(head + "18446744073709551615;}");
        CHECK.right(head + "00018446744073709551615;}");
        CHECK.right(head + "9999999999999999999;}");
        CHECK.right(head + "10000000000000000000;}");
        int at = head.length();
        for (char last = '6'; last <= '9'; last++) {
            wrong(head + "1844674407370955161" + last + ";}", at + 19);
            wrong(head + "001844674407370955161" + last + ";}", at + 21);
        }
        wrong(head + "18446744073709551620;}", at + 19);
        wrong(head + "184467440737095516150;}", at + 20);
        wrong(head + "20000000000000000000;}", at + 19);
        wrong(head + "99999999999999999999;}", at + 19);
        wrong(head + "100000000000000000000;}", at + 20);
        wrong(head + "36893488147419103232;}", at + 19);
        MachineLoom loom = Check.of(head + "18446744073709551615;}");
        loom.step(0);
        CHECK.due("2^64 - 1", loom.peek(0, 0), -1);
        loom = Check.of(head + "9223372036854775808;}");
        loom.step(0);
        CHECK.due("2^63", loom.peek(0, 0), Long.MIN_VALUE);
    }

    private static void lettersBehindNumbers() {
        CHECK.sentence("nor can a letter or _)");
        for (char c : (LETTERS + "_").toCharArray()) {
            wrong("bits 8" + c + ";", 6);
            wrong("bits 16" + c + ";", 7);
            if (!isIn(HEX, c)) {
                wrong("bits 0x8" + c + ";", 8);
            }
            if (c != 'x') {
                wrong("bits 0" + c + ";", 6);
            }
            wrong("bits 0x0000000000000008" + c + ";", 23);
        }
        // Other TOKENS may stand right behind it.
        CHECK.right("bits 8;reg p:8;op o\"........\"{p=8'8+8'8[7:0]-8'0x8<<8'8==8'8?8'8:8'8;}");
    }

    private static void codes() {
        CHECK.sentence("a CODE (a \", then any of 0 1 . and letters, then a \")");
        for (char c = 0; c < 256; c++) {
            if (isIn(LETTERS + "01.", c)) {
                CHECK.right("bits 8;op o\"" + c + ".......\"{}");
                CHECK.right("bits 8;op o\"......." + c + "\"{}");
            } else if (c != '"') {
                wrong("bits 8;op o\"" + c + ".......\"{}", 12);
                wrong("bits 8;op o\"......." + c + "\"{}", 19);
            }
        }
        CHECK.fault("bits 8;op o`\"\"{}", 5);
        CHECK.fault("bits 8;op o`\"\" {}", 5);
        wrong("bits 8;op o\"", 12);
        wrong("bits 8;op o\"........", 20);
        wrong("bits 8;op o\"........{}", 20);
        wrong("bits 8;op o\"........\"\"{}", 22);
        wrong("bits 8;op o\"....\"\"....\"{}", 17);
    }
}
