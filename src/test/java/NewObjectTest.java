/** Promise 1: A new object, and what every promise says of it. */
public final class NewObjectTest {
    public static void main(String[] args) {
        Check check = new Check();
        MachineLoom loom = new MachineLoom();
        check.due("count(0)", loom.count(0), 0);
        check.due("fault(0)", loom.fault(0), 0);
        check.due("fault(1)", loom.fault(1), -1);
        check.due("fault(2)", loom.fault(2), -1);
        check.due("trap()", loom.trap(), 0);
        check.due("LENGTH", loom.count(1), 8);
        for (int what = 2; what <= 7; what++) {
            check.due("count(" + what + ")", loom.count(what), 0);
        }
        check.due("free()", loom.free(), 256);
        for (int word = 0; word < 256; word++) {
            check.due("decode", loom.decode(word), -1);
        }
        check.due("step", loom.step(0), -2);
        check.due("trap()", loom.trap(), -2);
        check.due("count(6)", loom.count(6), 1);
        check.thrown("run", IllegalStateException.class, () -> loom.run(1));
        check.thrown("peek", java.util.NoSuchElementException.class, () -> loom.peek(0, 0));
        check.thrown("thing", java.util.NoSuchElementException.class, () -> loom.thing(0, 0));
        check.thrown("field", java.util.NoSuchElementException.class, () -> loom.field(0, 'a', 0));
        check.finish();
    }
}
