/** The boundary cases that the document names of connections and slots, sentence by sentence. */
public final class EdgesOfConnectionsTest {
    private static final Check check = new Check("EdgesOfConnectionsTest");
    private static final int LAST = 1 << 31;
    private static final int NONE = RecordCalls.NONE;
    private static final byte[] CALL = Message.call(1, 1, 0).fragment();

    public static void main(String[] args) {
        check.sentence("There are connections 0 .. 3", EdgesOfConnectionsTest::connections);
        check.sentence("SLOTS 0, 1, .. with bytes (calls, replies, whatever), one more with each",
                EdgesOfConnectionsTest::slotsOneMoreWithEach);
        check.sentence("the latest 64 are there", EdgesOfConnectionsTest::latest64);
        check.sentence("the latest 64 are there: also when one push makes more",
                EdgesOfConnectionsTest::latest64OfOnePush);
        check.sentence("Bytes of slots are pushed into a connection, which puts records together",
                EdgesOfConnectionsTest::putsRecordsTogether);
        check.sentence("whenever one is whole, the server looks at it", EdgesOfConnectionsTest::wheneverOneIsWhole);
        check.sentence("a reply is a new slot (one fragment)", EdgesOfConnectionsTest::replyIsOneFragment);
        check.sentence("A connection BREAKS when a fragment's word says that its record would have more than 1200 bytes",
                EdgesOfConnectionsTest::breaksAbove1200);
        check.sentence("BREAKS when its record would have more than 1200 bytes: in fragments",
                EdgesOfConnectionsTest::breaksAbove1200InFragments);
        check.sentence("a fragment's word says", EdgesOfConnectionsTest::breaksAtTheWord);
        check.sentence("what is pushed into it then is nothing, until it is opened anew",
                EdgesOfConnectionsTest::nothingThen);
        check.sentence("opened anew, with nothing of a record there", EdgesOfConnectionsTest::openedAnew);
        check.sentence("opened anew, with nothing of a record there: not of a fragment's word either",
                EdgesOfConnectionsTest::openedAnewInAWord);
        check.sentence("(Its replies stay known.)", EdgesOfConnectionsTest::repliesStayKnown);
        check.finish();
    }

    private static void connections() {
        Line line = new Line();
        RecordCalls x = line.x;
        int slot = line.slot(CALL);
        for (int c = 0; c < 4; c++) {
            check.same("push " + c, x.push(c, slot, 0, 20), 0);
            for (int other = 0; other < 4; other++) {
                check.same("waiting at " + other, x.count(5 + other), other <= c ? 16 : 0);
            }
        }
        for (int c = 0; c < 4; c++) {
            check.same("the rest " + c, x.push(c, slot, 20, CALL.length - 20), 1);
        }
        for (int c : new int[] {-1, 4, 5, 64, -4, Integer.MIN_VALUE, Integer.MAX_VALUE}) {
            check.fails("push " + c, IndexOutOfBoundsException.class, () -> x.push(c, slot, 0, 1));
            check.fails("push nothing " + c, IndexOutOfBoundsException.class, () -> x.push(c, slot, 0, 0));
            check.fails("open " + c, IndexOutOfBoundsException.class, () -> x.open(c));
        }
    }

    private static void slotsOneMoreWithEach() {
        RecordCalls x = new RecordCalls();
        check.same("none", x.count(0), 0);
        check.same("raw", x.raw(), 0);
        check.same("record", x.record(1), 1);
        check.same("call", x.call(1, 1, 2, false, 0), 2);
        check.same("a reply", x.push(0, 2, 0, 48), 1);
        check.same("made", x.count(0), 4);
        check.same("it is slot 3", x.says(3, 1), 0);
        check.same("a repeated one", x.push(0, 2, 0, 48), 1);
        check.same("it is slot 4", x.says(4, 1), 0);
        check.same("a bad one", x.push(0, 1, 0, 4), 0);
        check.same("makes none", x.count(0), 5);
        check.same("raw again", x.raw(), 5);
    }

    private static void latest64() {
        Line line = new Line();
        RecordCalls x = line.x;
        for (int i = 0; i < 130; i++) {
            // A feed and an end make each slot's length its own.
            x.feed(0, 0, 0, 0, 0);
            x.end(i % 21);
            check.same("slot", x.raw(), i);
            int oldest = Math.max(0, i - 63);
            if (i == 0 || i >= 62 && i <= 65 || i == 129) {
                check.same("the oldest of " + i, x.length(oldest), oldest % 21);
                check.same("the newest of " + i, x.length(i), i % 21);
                notThere(x, oldest - 1);
                notThere(x, i + 1);
            }
        }
    }

    private static void notThere(RecordCalls x, int slot) {
        check.fails("length of " + slot, IndexOutOfBoundsException.class, () -> x.length(slot));
        check.fails("byte of " + slot, IndexOutOfBoundsException.class, () -> x.byteAt(slot, 0));
        check.fails("word of " + slot, IndexOutOfBoundsException.class, () -> x.word(slot, 0));
        check.fails("says of " + slot, IndexOutOfBoundsException.class, () -> x.says(slot, 1));
        check.fails("push of " + slot, IndexOutOfBoundsException.class, () -> x.push(0, slot, 0, 0));
    }

    private static void latest64OfOnePush() {
        for (int n : new int[] {63, 64, 65, 100, 133}) {
            Line line = new Line();
            line.push(0, Message.call(7, 1, 1).key("abc").longOne(9).fragment());
            Message many = new Message();
            for (int i = 0; i < n; i++) {
                many.plain(new Message().words(7, 0).fragment());
            }
            int pushed = line.slot(many.bytes());
            check.same("replies", line.x.push(0, pushed, 0, 12 * n), n);
            check.same("repeated", line.x.count(3), n);
            check.same("slots", line.x.count(0), pushed + 1 + n);
            int oldest = pushed + n - 63;
            check.same("the oldest", line.x.length(oldest), n == 63 ? 12 * n : 36);
            check.fails("one more", IndexOutOfBoundsException.class, () -> line.x.length(oldest - 1));
            check.same("the newest", line.latest(), Message.accepted(7, 0).words(0, 0).fragment());
        }
    }

    private static void putsRecordsTogether() {
        byte[] record = Message.call(5, 1, 1).key("abc").longOne(-9).bytes();
        for (int cut = 1; cut <= record.length; cut += 7) {
            Line line = new Line();
            line.tape(record);
            int slot = line.x.record(cut);
            int n = line.x.length(slot);
            for (int i = 0; i < n - 1; i++) {
                check.same("byte " + i + " of cut " + cut, line.x.push(2, slot, i, 1), 0);
            }
            check.same("waiting", line.x.count(7), record.length - 1);
            check.same("the last byte", line.x.push(2, slot, n - 1, 1), 1);
            check.same("waiting then", line.x.count(7), 0);
            check.same("done", line.value("abc"), -9);
        }
    }

    private static void wheneverOneIsWhole() {
        Line line = new Line();
        byte[] first = Message.call(1, 1, 1).key("a").longOne(1).fragment();
        byte[] second = Message.call(2, 1, 3).key("a").longOne(1).fragment();
        int slot = line.slot(new Message().plain(first).plain(second).plain(first).bytes());
        check.same("just short of one", line.x.push(0, slot, 0, first.length - 1), 0);
        check.same("one, and a byte", line.x.push(0, slot, first.length - 1, 2), 1);
        check.same("the byte is of a fragment's word", line.x.count(5), 0);
        check.same("the others", line.x.push(0, slot, first.length + 1, 2 * first.length - 1), 2);
        check.same("in their order", line.x.says(slot + 1, 1) + line.x.says(slot + 2, 2) + line.x.says(slot + 3, 1), 0);
        check.same("done", line.value("a"), 2);
        check.same("an empty one needs its word alone", line.push(0, new Message().words(LAST, LAST, LAST).bytes()), 0);
        check.same("three of them", line.x.count(4), 3);
    }

    private static void replyIsOneFragment() {
        Line line = new Line();
        for (int i = 0; i < 8; i++) {
            line.set(0, i, "0123456789abcde" + i, i);
        }
        line.push(0, Message.call(20, 2, 5).words(0, 8).fragment());
        byte[] all = line.latest();
        check.same("its length", all.length, 4 + 24 + 4 + 8 * 28 + 4);
        check.same("its word", line.x.word(line.x.count(0) - 1, 0), LAST | all.length - 4);
        line.tape(Message.call(21, 1, 0).bytes());
        int cut = line.x.record(3);
        line.x.push(1, cut, 0, line.x.length(cut));
        check.same("also of a call in many", line.latest(), Message.accepted(21, 0).fragment());
    }

    private static void breaksAbove1200() {
        for (int n : new int[] {1199, 1200, 1201, 1202, 4096, 65536, 0x1000000, 0x40000000, 0x7fffffff}) {
            for (int last : new int[] {0, LAST}) {
                Line line = new Line();
                check.same("no reply", line.push(1, new Message().words(last | n).bytes()), 0);
                check.same("a word of " + n, line.x.count(6), n <= 1200 ? 0 : NONE);
                check.same("broken by " + n, line.x.open(1), n > 1200);
                check.same("none is bad", line.x.count(4), 0);
            }
        }
        Line line = new Line();
        check.same("a record of 1200", line.push(0, new Message().words(LAST | 1200, 5, 0, 2, Message.PROGRAM, 1, 0, 1)
                .key(new byte[400]).words(0).key(new byte[400]).zeros(1200 - 7 * 4 - 404 - 4 - 404).bytes()), 1);
        check.same("its reply", line.latest(), Message.refused(5, 1, 3).fragment());
    }

    private static void breaksAbove1200InFragments() {
        int[][] cuts = {{600, 600}, {600, 601}, {1, 1199}, {1, 1200}, {1199, 1}, {1199, 2}, {1200, 0}, {1200, 1},
            {400, 400, 400}, {400, 400, 401}, {1, 0x7fffffff}, {1200, 0x7fffffff}};
        for (int[] cut : cuts) {
            Line line = new Line();
            int before = 0;
            for (int i = 0; i < cut.length - 1; i++) {
                line.push(3, new Message().words(cut[i]).zeros(cut[i]).bytes());
                before += cut[i];
            }
            check.same("waiting", line.x.count(8), before);
            boolean breaks = before + (long) cut[cut.length - 1] > 1200;
            line.push(3, new Message().words(cut[cut.length - 1]).bytes());
            check.same("cut " + java.util.Arrays.toString(cut), line.x.count(8), breaks ? NONE : before);
            check.same("broken", line.x.open(3), breaks);
        }
        Line line = new Line();
        line.push(0, new Message().words(LAST | 1200).zeros(1200).words(LAST | 1200).bytes());
        check.same("each record has 1200 of its own", line.x.count(5), 0);
    }

    private static void breaksAtTheWord() {
        Line line = new Line();
        line.push(0, (byte) 0x7f, (byte) 0xff, (byte) 0xff);
        check.same("not before the word is whole", line.x.count(5), 0);
        line.push(0, (byte) 0xff);
        check.same("but then", line.x.count(5), NONE);
        check.same("others do not break", line.x.count(6) + line.x.count(7) + line.x.count(8), 0);
    }

    private static void nothingThen() {
        Line line = new Line();
        check.same("a reply before", line.push(0, new Message().plain(CALL).words(1201).plain(CALL).words(LAST)
                .plain(CALL).bytes()), 1);
        check.same("not repeated", line.x.count(3), 0);
        check.same("none is bad", line.x.count(4), 0);
        for (int i = 0; i < 3; i++) {
            check.same("nothing", line.push(0, CALL), 0);
            check.same("broken still", line.x.count(5), NONE);
        }
        RecordCalls x = line.x;
        int slot = line.slot(CALL);
        check.fails("bytes that are not there", IndexOutOfBoundsException.class, () -> x.push(0, slot, 0, 45));
        check.same("no more slots", x.count(0), 6);
        check.same("opened", x.open(0), true);
        check.same("then it is repeated", x.push(0, slot, 0, 44), 1);
        check.same("once", x.count(3), 1);
    }

    private static void openedAnew() {
        Line line = new Line();
        int call = line.slot(CALL);
        line.push(0, new Message().words(500).zeros(500).words(701).bytes());
        check.same("broken", line.x.count(5), NONE);
        check.same("opened", line.x.open(0), true);
        check.same("nothing there", line.x.count(5), 0);
        check.same("a record alone", line.x.push(0, call, 0, 44), 1);
        line.push(0, new Message().words(500).zeros(100).bytes());
        check.same("waiting", line.x.count(5), 100);
        check.same("it was not broken", line.x.open(0), false);
        check.same("nothing there", line.x.count(5), 0);
        check.same("a record alone again", line.x.push(0, call, 0, 44), 1);
        line.push(0, new Message().words(1200).zeros(1200).bytes());
        line.x.open(0);
        line.push(0, new Message().words(1200).bytes());
        check.same("1200 anew", line.x.count(5), 0);
    }

    private static void openedAnewInAWord() {
        for (int n = 1; n <= 4; n++) {
            Line line = new Line();
            int call = line.slot(CALL);
            line.x.push(0, call, 0, n);
            check.same("not broken", line.x.open(0), false);
            check.same("a record alone after " + n, line.x.push(0, call, 0, 44), 1);
            check.same("its reply", line.latest(), Message.accepted(1, 0).fragment());
        }
    }

    private static void repliesStayKnown() {
        Line line = new Line();
        for (int i = 0; i < 8; i++) {
            line.set(0, i, "k", i);
        }
        line.push(0, new Message().words(-1).bytes());
        check.same("opened", line.x.open(0), true);
        for (int i = 0; i < 8; i++) {
            check.same("known is " + i, line.saidTo(0, new Message().words(i, 0)), 0);
        }
        line.x.open(0);
        check.same("known still", line.saidTo(0, new Message().words(0, 0)), 0);
        line.push(0, Message.call(8, 1, 0).fragment());
        check.same("as old as they were", line.saidTo(0, new Message().words(0, 0)), -1);
        check.same("done", line.x.count(2), 9);
    }
}
