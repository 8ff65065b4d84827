import java.util.LinkedHashMap;
import java.util.Map;
import java.util.function.Consumer;

/** "A call that throws changes nothing": an object that was asked wrongly goes on as one that was not. */
public final class EdgesOfThrowsTest {
    private static final Check check = new Check("EdgesOfThrowsTest");
    private static final byte[] CALL = Message.call(1, 1, 1).key("k").longOne(5).fragment();

    public static void main(String[] args) {
        check.sentence("A call that throws changes nothing.", EdgesOfThrowsTest::emptyTape);
        check.sentence("A call that throws changes nothing: nor does it with a tape of 17", EdgesOfThrowsTest::longTape);
        check.sentence("A call that throws changes nothing: nor does it with a full tape", EdgesOfThrowsTest::fullTape);
        check.sentence("Methods throw what their comments name", EdgesOfThrowsTest::nothingElse);
        check.sentence("the one named first when several would do", EdgesOfThrowsTest::severalWouldDo);
        check.sentence("IndexOutOfBoundsException: there is no such connection, slot or byte.",
                EdgesOfThrowsTest::noSuchConnectionSlotOrByte);
        check.finish();
    }

    private static void emptyTape() {
        byte[] due = whatFollows(used(0));
        for (Map.Entry<String, Consumer<RecordCalls>> wrong : wrongCalls().entrySet()) {
            goesOnTheSame(wrong.getKey(), used(0), wrong.getValue(), due);
        }
    }

    private static void longTape() {
        byte[] due = whatFollows(used(17));
        goesOnTheSame("call of 17", used(17), x -> x.call(1, 1, 1, true, 1), due);
        goesOnTheSame("record 0", used(17), x -> x.record(0), due);
        goesOnTheSame("end 18", used(17), x -> x.end(18), due);
    }

    private static void fullTape() {
        byte[] due = whatFollows(used(1600));
        goesOnTheSame("feed", used(1600), x -> x.feed(1, 2, 3, 4, 5), due);
        goesOnTheSame("record 1600", used(1600), x -> x.record(1600), due);
        goesOnTheSame("call", used(1600), x -> x.call(1, 1, 1, true, 1), due);
    }

    /** Every method with every mixture of odd numbers: nothing but what is named reaches the caller. */
    private static void nothingElse() {
        int[] odd = {Integer.MIN_VALUE, Integer.MIN_VALUE + 5, -1, 0, 1, 3, 4, 16, 63, 64, 71, 72, 1600,
            Integer.MAX_VALUE - 3, Integer.MAX_VALUE};
        for (int a : odd) {
            Line line = used(17);
            only("end", IllegalArgumentException.class, () -> line.x.end(a));
            only("record", IllegalArgumentException.class, () -> line.x.record(a));
            only("call", IllegalArgumentException.class, () -> line.x.call(a, a, a, true, a));
            only("open", IndexOutOfBoundsException.class, () -> line.x.open(a));
            only("length", IndexOutOfBoundsException.class, () -> line.x.length(a));
            only("count", IllegalArgumentException.class, () -> line.x.count(a));
            for (int b : odd) {
                only("byteAt", IndexOutOfBoundsException.class, () -> line.x.byteAt(a, b));
                only("word", IndexOutOfBoundsException.class, () -> line.x.word(a, b));
                only("says", IndexOutOfBoundsException.class, () -> line.x.says(a, b));
            }
        }
        for (int a : odd) {
            for (int b : odd) {
                Line line = used(17);
                for (int c : odd) {
                    for (int d : new int[] {-1, 0, 1, 4, 60, 61, Integer.MAX_VALUE, Integer.MIN_VALUE}) {
                        only("push", IndexOutOfBoundsException.class, () -> line.x.push(a, b, c, d));
                    }
                }
            }
        }
    }

    private static void severalWouldDo() {
        RecordCalls full = used(1600).x;
        check.fails("record 0 of 1600", IllegalArgumentException.class, () -> full.record(0));
        check.fails("call of 1600", IllegalArgumentException.class, () -> full.call(-1, -1, -1, true, -1));
        RecordCalls x = used(0).x;
        check.fails("no connection, slot, byte", IndexOutOfBoundsException.class, () -> x.push(4, -1, -1, -1));
        check.fails("no slot, no byte", IndexOutOfBoundsException.class, () -> x.byteAt(-1, -1));
        check.fails("no slot, no word", IndexOutOfBoundsException.class, () -> x.word(1000, -1));
        check.fails("no slot, another number", IndexOutOfBoundsException.class, () -> x.says(7, -1));
    }

    private static void noSuchConnectionSlotOrByte() {
        // Slots 11 to 74 are there, 71 has the call.
        RecordCalls x = used(0).x;
        x.raw();
        int n = CALL.length;
        for (int slot : new int[] {Integer.MIN_VALUE, -64, -1, 0, 10, 75, 139, Integer.MAX_VALUE}) {
            check.fails("length of " + slot, IndexOutOfBoundsException.class, () -> x.length(slot));
            check.fails("byteAt of " + slot, IndexOutOfBoundsException.class, () -> x.byteAt(slot, 0));
            check.fails("word of " + slot, IndexOutOfBoundsException.class, () -> x.word(slot, 0));
            check.fails("says of " + slot, IndexOutOfBoundsException.class, () -> x.says(slot, 1));
            check.fails("push of " + slot, IndexOutOfBoundsException.class, () -> x.push(0, slot, 0, 0));
        }
        for (int connection : new int[] {Integer.MIN_VALUE, -1, 4, Integer.MAX_VALUE}) {
            check.fails("open " + connection, IndexOutOfBoundsException.class, () -> x.open(connection));
            check.fails("push to " + connection, IndexOutOfBoundsException.class, () -> x.push(connection, 71, 0, n));
        }
        for (int i : new int[] {Integer.MIN_VALUE, -1, n, Integer.MAX_VALUE}) {
            check.fails("byte " + i, IndexOutOfBoundsException.class, () -> x.byteAt(71, i));
            check.fails("word " + i, IndexOutOfBoundsException.class, () -> x.word(71, i));
            check.fails("push from " + i, IndexOutOfBoundsException.class, () -> x.push(0, 71, i, 1));
        }
        check.same("slots", x.count(0), 75);
        check.same("the first slot", x.length(11), 0);
        check.same("the last slot", x.length(74), 0);
        check.same("the last byte", x.byteAt(71, n - 1), 5);
        check.same("the last word", x.word(71, n - 4), 5);
        check.same("the last byte is pushed", x.push(3, 71, n - 1, 1), 0);
    }

    private static void only(String what, Class<? extends RuntimeException> named, Runnable call) {
        Class<?> thrown = named;
        try {
            call.run();
        } catch (RuntimeException e) {
            thrown = e.getClass();
        }
        check.same(what + " may throw " + thrown, thrown == named, true);
    }

    private static Map<String, Consumer<RecordCalls>> wrongCalls() {
        Map<String, Consumer<RecordCalls>> all = new LinkedHashMap<>();
        all.put("end -1", x -> x.end(-1));
        all.put("end 1", x -> x.end(1));
        all.put("record 0", x -> x.record(0));
        all.put("push to 4", x -> x.push(4, 70, 0, 10));
        all.put("push of an old slot", x -> x.push(0, 5, 0, 0));
        all.put("push of a new slot", x -> x.push(0, 1000, 0, 0));
        all.put("push one too many", x -> x.push(0, 71, 0, CALL.length + 1));
        all.put("push one too far", x -> x.push(1, 71, 1, CALL.length));
        all.put("push -1", x -> x.push(1, 71, 1, -1));
        all.put("push to a broken one", x -> x.push(2, 71, 1, CALL.length));
        all.put("open 4", x -> x.open(4));
        all.put("open -1", x -> x.open(-1));
        all.put("length", x -> x.length(-1));
        all.put("byteAt", x -> x.byteAt(71, CALL.length));
        all.put("word", x -> x.word(71, CALL.length - 3));
        all.put("says", x -> x.says(1000, 1));
        all.put("count", x -> x.count(9));
        return all;
    }

    /** Slots come and gone, a key, a known reply, a record half there, a broken connection, and bytes on the tape. */
    private static Line used(int tape) {
        Line line = new Line();
        for (int i = 0; i < 71; i++) {
            line.x.raw();
        }
        int call = line.slot(CALL);
        line.x.push(0, call, 0, CALL.length);
        line.x.push(1, call, 0, CALL.length - 2);
        line.push(2, new Message().words(1201).bytes());
        line.tape(new byte[tape]);
        return line;
    }

    private static void goesOnTheSame(String what, Line line, Consumer<RecordCalls> wrong, byte[] due) {
        boolean threw = false;
        try {
            wrong.accept(line.x);
        } catch (IllegalArgumentException | IndexOutOfBoundsException | UnsupportedOperationException e) {
            threw = true;
        }
        check.same(what + " throws", threw, true);
        check.same("after " + what, whatFollows(line), due);
    }

    private static byte[] whatFollows(Line line) {
        Message all = new Message();
        RecordCalls x = line.x;
        addCounts(all, x);
        int tape = x.raw();
        all.words(x.length(tape));
        for (int slot = Math.max(0, tape - 63); slot <= tape; slot++) {
            all.words(x.length(slot));
        }
        all.plain(line.bytes(71)).plain(line.bytes(72));
        all.words(x.push(1, 71, CALL.length - 2, 2), x.push(0, 71, 0, CALL.length), x.push(2, 71, 0, CALL.length));
        all.plain(line.latest()).words(x.open(2) ? 1 : 0, x.open(3) ? 1 : 0);
        all.longOne(line.value("k"));
        addCounts(all, x);
        return all.bytes();
    }

    private static void addCounts(Message all, RecordCalls x) {
        for (int what = 0; what <= 8; what++) {
            all.words(x.count(what));
        }
    }
}
