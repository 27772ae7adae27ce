/** Promises 2 and 3: feed and end. */
public final class InputTest {
    public static void main(String[] args) {
        Check check = new Check();
        feedOrder(check);
        feedLimit(check);
        ends(check);
        check.finish();
    }

    /** Of each number the highest byte is first: else the text would be another one. */
    private static void feedOrder(Check check) {
        MachineLoom loom = new MachineLoom();
        check.due("feed", loom.feed(0x62697473, 0x2038203b, 0x72656720, 0x703a2035, 0x3b202020), 20);
        check.due("count(0)", loom.count(0), 20);
        check.due("build", loom.build(), 0);
        check.due("WIDTH of p", loom.thing(0, 0), 5);
        check.due("count(0) behind build", loom.count(0), 0);

        MachineLoom high = new MachineLoom();
        high.feed(0x62697473, 0x20383bff, -1, 0x80808080, 0);
        check.thrown("bytes above 127", IllegalStateException.class, high::build);
        check.due("fault(0)", high.fault(0), 1);
        check.due("fault(1)", high.fault(1), 7);
    }

    private static void feedLimit(Check check) {
        MachineLoom loom = new MachineLoom();
        for (int i = 1; i <= 1638; i++) {
            check.due("feed", loom.feed(0x20202020, 0x20202020, 0x20202020, 0x20202020, 0x20202020), 20 * i);
        }
        check.thrown("32780 bytes", IndexOutOfBoundsException.class, () -> loom.feed(1, 2, 3, 4, 5));
        check.due("nothing is changed", loom.count(0), 32760);
        check.due("end", loom.end(12), 32748);
        check.due("32768 bytes", loom.feed(0, 0, 0, 0, 0), 32768);
        check.thrown("one byte more", IndexOutOfBoundsException.class, () -> loom.feed(0, 0, 0, 0, 0));
        check.due("nothing is changed", loom.count(0), 32768);
        check.due("end", loom.end(32768), 0);
    }

    private static void ends(Check check) {
        MachineLoom loom = new MachineLoom();
        check.due("end(0) of nothing", loom.end(0), 0);
        check.thrown("end(1) of nothing", IllegalArgumentException.class, () -> loom.end(1));
        check.thrown("end(-1)", IllegalArgumentException.class, () -> loom.end(-1));
        loom.feed(0x62697473, 0x2038203b, 0x72656720, 0x703a2035, 0x3b202020);
        check.thrown("end(21)", IllegalArgumentException.class, () -> loom.end(21));
        check.thrown("the least one", IllegalArgumentException.class, () -> loom.end(Integer.MIN_VALUE));
        check.thrown("the greatest one", IllegalArgumentException.class, () -> loom.end(Integer.MAX_VALUE));
        check.due("nothing is changed", loom.count(0), 20);
        check.due("end(0)", loom.end(0), 20);
        check.due("end(12)", loom.end(12), 8);
        check.due("what is left is a text", loom.build(), 0);
        check.due("THINGS", loom.count(2), 0);
        loom.feed(0, 0, 0, 0, 0);
        check.due("end of all", loom.end(20), 0);
    }
}
