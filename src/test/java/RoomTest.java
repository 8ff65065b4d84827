import java.lang.management.ManagementFactory;

/** The dearest calls of a run, and many new objects, stay within the room that all calls of a run have. */
public final class RoomTest {
    private static final Check check = new Check("RoomTest");
    private static final int CALLS = 512;
    /** The room has so many fields and elements; what is measured are bytes, never fewer than these. */
    private static final long ROOM = 7_300_000;

    public static void main(String[] args) {
        manyReplies();
        longSlots();
        withinRoom("new objects", () -> new RecordCalls().raw());
        check.finish();
    }

    private static void manyReplies() {
        Line line = new Line();
        for (int i = 0; i < 8; i++) {
            line.push(0, Message.call(i, 1, 1).key("0123456789abcde" + i).longOne(i).fragment());
        }
        line.push(0, Message.call(9, 2, 5).words(0, 8).fragment());
        Message many = new Message();
        for (int i = 0; i < 133; i++) {
            many.plain(new Message().words(9, 0).fragment());
        }
        byte[] bytes = many.bytes();
        check.same("replies", line.push(0, bytes), 133);
        withinRoom("pushes with many replies", () -> line.push(0, bytes));
    }

    private static void longSlots() {
        Line line = new Line();
        byte[] bytes = new byte[1596];
        withinRoom("long slots", () -> {
            line.tape(bytes);
            line.x.says(line.x.record(1596), 1);
        });
    }

    private static void withinRoom(String what, Runnable call) {
        com.sun.management.ThreadMXBean threads =
                (com.sun.management.ThreadMXBean) ManagementFactory.getThreadMXBean();
        long before = threads.getCurrentThreadAllocatedBytes();
        for (int i = 0; i < CALLS; i++) {
            call.run();
        }
        long made = threads.getCurrentThreadAllocatedBytes() - before;
        check.same(what + " made " + made + " bytes, within the room", made <= ROOM, true);
    }
}
