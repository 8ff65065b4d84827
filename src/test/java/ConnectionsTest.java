/** Promises 7, 8 and 15: pieces, fragments, breaks and what is counted. */
public final class ConnectionsTest {
    private static final Check check = new Check("ConnectionsTest");

    public static void main(String[] args) {
        pieces();
        fragments();
        severalRecords();
        pushLimits();
        throwsChangeNothing();
        breaks();
        breakAtTheLimit();
        openAnew();
        pushedSlotGoes();
        replySlots();
        counts();
        check.finish();
    }

    private static void pieces() {
        byte[] all = Message.call(1, 1, 1).key("abc").longOne(9).fragment();
        for (int cut = 0; cut <= all.length; cut++) {
            Line line = new Line();
            int slot = line.slot(all);
            check.same("front " + cut, line.x.push(1, slot, 0, cut), cut == all.length ? 1 : 0);
            check.same("waiting " + cut, line.x.count(6), cut == all.length ? 0 : Math.max(0, cut - 4));
            check.same("back " + cut, line.x.push(1, slot, cut, all.length - cut), cut == all.length ? 0 : 1);
            check.same("value " + cut, line.value("abc"), 9);
            check.same("none waits", line.x.count(6), 0);
        }
        Line line = new Line();
        int slot = line.slot(all);
        for (int i = 0; i < all.length - 1; i++) {
            check.same("byte " + i, line.x.push(2, slot, i, 1), 0);
            check.same("the others wait not", line.x.count(5) + line.x.count(6) + line.x.count(8), 0);
        }
        check.same("last byte", line.x.push(2, slot, all.length - 1, 1), 1);
    }

    private static void fragments() {
        byte[] call = Message.call(1, 1, 1).key("abc").longOne(9).bytes();
        for (int cut = 1; cut <= call.length; cut++) {
            Line line = new Line();
            line.tape(call);
            int slot = line.x.record(cut);
            check.same("cut " + cut, line.x.push(0, slot, 0, line.x.length(slot)), 1);
            check.same("value " + cut, line.value("abc"), 9);
        }
        Line line = new Line();
        Message empties = new Message().words(0, 0, 8, 1, 0, 0, 1 << 31 | 4, 9, 0);
        check.same("empty ones between", line.push(0, empties.bytes()), 1);
        check.same("the reply", line.x.says(line.x.count(0) - 1, 1), 5);
        check.same("a word of the next", line.x.count(5), 0);
        Line other = new Line();
        check.same("an empty one at last", other.push(0, new Message().words(12, 1, 0, 9, 1 << 31).bytes()), 1);
        check.same("the reply", other.x.says(1, 1), 5);
        check.same("not the last", other.push(0, new Message().words(12, 1, 0, 9).bytes()), 0);
        check.same("it waits", other.x.count(5), 12);
        check.same("one more", other.push(0, new Message().words(3).plain((byte) 1, (byte) 2).bytes()), 0);
        check.same("it waits with more", other.x.count(5), 14);
    }

    private static void severalRecords() {
        Line line = new Line();
        Message all = new Message().plain(Message.call(1, 1, 1).key("a").longOne(5).fragment())
                .words(1 << 31).plain(Message.call(2, 1, 3).key("a").longOne(6).fragment())
                .plain(Message.call(1, 1, 3).key("a").longOne(7).fragment()).words(1 << 31 | 9, 1);
        check.same("three replies", line.push(0, all.bytes()), 3);
        check.same("slots", line.x.count(0), 4);
        check.same("first", line.x.says(1, 1), 0);
        check.same("second", line.x.says(2, 2), 0);
        check.same("third", line.bytes(3), line.bytes(1));
        check.same("bad", line.x.count(4), 1);
        check.same("waiting", line.x.count(5), 4);
        check.same("value", line.value("a"), 11);
    }

    private static void pushLimits() {
        Line line = new Line();
        RecordCalls x = line.x;
        int slot = line.slot(new byte[10]);
        check.same("none at the end", x.push(0, slot, 10, 0), 0);
        check.same("none", x.push(0, slot, 3, 0), 0);
        int[][] wrong = {{-1, 0, 0, 1}, {4, 0, 0, 1}, {Integer.MIN_VALUE, 0, 0, 1}, {Integer.MAX_VALUE, 0, 0, 1},
            {0, -1, 0, 0}, {0, 1, 0, 0}, {0, 0, -1, 1}, {0, 0, 0, 11}, {0, 0, 10, 1}, {0, 0, 9, 2}, {0, 0, 0, -1},
            {0, 0, 5, -1}, {0, 0, 1, Integer.MAX_VALUE}, {0, 0, Integer.MAX_VALUE, 1}, {0, 0, -1, 11},
            {0, 0, Integer.MAX_VALUE, Integer.MAX_VALUE}, {0, 0, 0, Integer.MIN_VALUE}, {0, 0, Integer.MIN_VALUE, 0},
            {0, 0, Integer.MIN_VALUE, Integer.MIN_VALUE}, {0, 0, Integer.MAX_VALUE, Integer.MIN_VALUE}};
        for (int[] w : wrong) {
            check.fails("push " + java.util.Arrays.toString(w), IndexOutOfBoundsException.class,
                    () -> x.push(w[0], w[1], w[2], w[3]));
        }
        for (int c : new int[] {-1, 4, Integer.MIN_VALUE, Integer.MAX_VALUE}) {
            check.fails("open " + c, IndexOutOfBoundsException.class, () -> x.open(c));
        }
    }

    private static void throwsChangeNothing() {
        Line line = new Line();
        RecordCalls x = line.x;
        int slot = line.slot(Message.call(1, 1, 0).fragment());
        check.fails("one too many", IndexOutOfBoundsException.class, () -> x.push(0, slot, 0, 45));
        check.same("nothing waits", x.count(5), 0);
        check.same("nothing is done", x.count(2), 0);
        check.same("then it is", x.push(0, slot, 0, 44), 1);
        line.push(0, new Message().words(1201).bytes());
        check.fails("a broken one throws too", IndexOutOfBoundsException.class, () -> x.push(0, slot, 0, 45));
    }

    private static void breaks() {
        Line line = new Line();
        RecordCalls x = line.x;
        byte[] call = Message.call(1, 1, 0).fragment();
        check.same("a reply, then a break", line.push(3,
                new Message().plain(call).words(1 << 31 | 1201).plain(call).bytes()), 1);
        check.same("broken", x.count(8), RecordCalls.NONE);
        check.same("nothing then", line.push(3, call), 0);
        check.same("repeated none", x.count(3), 0);
        check.same("another is not broken", line.push(2, call), 1);
        check.same("open", x.open(3), true);
        check.same("open again", x.open(3), false);
        check.same("not broken", x.count(8), 0);
        check.same("it works", line.push(3, call), 1);
        for (int word : new int[] {1201, Integer.MAX_VALUE, -1, 1 << 31 | 1201, 1 << 30}) {
            line.push(0, new Message().words(word).bytes());
            check.same("broken by " + word, x.count(5), RecordCalls.NONE);
            check.same("opened after " + word, x.open(0), true);
        }
        check.same("no bad ones", x.count(4), 0);
    }

    private static void breakAtTheLimit() {
        Line line = new Line();
        RecordCalls x = line.x;
        line.push(0, new Message().words(1 << 31 | 1200).plain(new byte[1199]).bytes());
        check.same("1200 may come", x.count(5), 1199);
        check.same("a record of 1200", line.push(0, (byte) 0), 1);
        check.same("none waits", x.count(5), 0);
        line.push(1, new Message().words(1000).plain(new byte[1000]).bytes());
        line.push(1, new Message().words(200).bytes());
        check.same("1200 in two", x.count(6), 1000);
        line.push(1, new byte[200]);
        line.push(1, new byte[4]);
        check.same("and an empty one", x.count(6), 1200);
        line.push(1, new Message().words(1).bytes());
        check.same("but not one more", x.count(6), RecordCalls.NONE);
        line.push(2, new Message().words(1000).plain(new byte[1000]).words(1 << 31 | 201).bytes());
        check.same("1201 in two", x.count(7), RecordCalls.NONE);
        line.push(3, new Message().words(1).plain((byte) 0).words(Integer.MAX_VALUE).bytes());
        check.same("2^31 in two", x.count(8), RecordCalls.NONE);
    }

    private static void openAnew() {
        Line line = new Line();
        RecordCalls x = line.x;
        byte[] call = Message.call(1, 1, 0).fragment();
        int slot = line.slot(call);
        for (int cut = 0; cut < call.length; cut++) {
            x.push(0, slot, 0, cut);
            check.same("open after " + cut, x.open(0), false);
            check.same("nothing of a record", x.count(5), 0);
            check.same("works after " + cut, x.push(0, slot, 0, call.length), 1);
        }
        line.push(0, new Message().words(5).plain(new byte[5]).words(1199).bytes());
        check.same("broken behind a fragment", x.open(0), true);
        check.same("nothing of it", x.count(5), 0);
        check.same("works", x.push(0, slot, 0, call.length), 1);
    }

    /** One push makes more replies than there are slots: its own bytes must outlast their slot. */
    private static void pushedSlotGoes() {
        Line line = new Line();
        line.send(0, Message.call(1, 1, 1).key("abc").longOne(9));
        byte[] reply = line.latest();
        Message many = new Message();
        for (int i = 0; i < 133; i++) {
            many.plain(new Message().words(1, 0).fragment());
        }
        int before = line.x.count(0);
        check.same("133 replies", line.push(0, many.bytes()), 133);
        check.same("slots", line.x.count(0), before + 134);
        check.same("repeated", line.x.count(3), 133);
        check.same("bad", line.x.count(4), 0);
        for (int i = 0; i < 64; i += 7) {
            check.same("reply " + i, line.bytes(line.x.count(0) - 1 - i), reply);
        }
        check.fails("one that is gone", IndexOutOfBoundsException.class, () -> line.x.length(before));
    }

    private static void replySlots() {
        Line line = new Line();
        line.tape("k");
        int call = line.x.call(7, 1, 1, true, 5);
        line.x.push(0, call, 0, line.x.length(call));
        check.same("one fragment", line.bytes(call + 1), new Message().words(7, 1, 0, 0, 0, 0, 0, 0).fragment());
        check.same("a reply is no call", line.x.push(0, call + 1, 0, 36), 0);
        check.same("it is bad", line.x.count(4), 1);
    }

    private static void counts() {
        Line line = new Line();
        RecordCalls x = line.x;
        for (int what : new int[] {-1, 9, 10, Integer.MIN_VALUE, Integer.MIN_VALUE + 5, Integer.MAX_VALUE}) {
            check.fails("count " + what, IllegalArgumentException.class, () -> x.count(what));
        }
        line.send(0, Message.call(1, 1, 1).key("a").longOne(1));
        line.send(0, Message.call(2, 1, 1).key("a"));
        line.send(0, Message.call(3, 3, 1));
        line.send(0, Message.call(2, 1, 0));
        line.send(0, new Message().words(4));
        line.send(1, Message.call(1, 1, 1).key("b").longOne(1));
        long[] due = {11, 2, 2, 1, 1, 0, 0, 0, 0};
        for (int what = 0; what < due.length; what++) {
            check.same("count " + what, x.count(what), due[what]);
        }
    }
}
