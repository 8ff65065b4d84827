/** Promises 1 to 6 and 9 to 11: a new object, the tape, and slots made of it. */
public final class TapeTest {
    private static final Check check = new Check("TapeTest");

    public static void main(String[] args) {
        newObject();
        feed();
        end();
        raw();
        record();
        recordLimits();
        call();
        callLimits();
        looks();
        latestSlots();
        check.finish();
    }

    private static void newObject() {
        RecordCalls x = new RecordCalls();
        for (int what = 0; what <= 8; what++) {
            check.same("new count " + what, x.count(what), 0);
        }
        check.fails("new length", IndexOutOfBoundsException.class, () -> x.length(0));
        check.same("new has", x.has(), false);
        check.same("new value", x.value(), 0);
        for (int c = 0; c < 4; c++) {
            check.same("new open", x.open(c), false);
        }
        check.same("new tape", x.raw(), 0);
        check.same("new tape is empty", x.length(0), 0);
        check.same("NONE", RecordCalls.NONE, -1);
    }

    private static void feed() {
        Line line = new Line();
        RecordCalls x = line.x;
        check.same("feed", x.feed(0x01020304, -2, 0x80000000, 0x7fffffff, 5), 20);
        check.same("feed again", x.feed(6, 7, 8, 9, 10), 40);
        check.same("raw", x.raw(), 0);
        check.same("fed bytes", line.bytes(0), new Message()
                .words(0x01020304, -2, 0x80000000, 0x7fffffff, 5, 6, 7, 8, 9, 10).bytes());
        for (int i = 1; i <= 80; i++) {
            check.same("feed " + i, x.feed(i, i, i, i, i), 20 * i);
        }
        check.fails("feed past 1600", UnsupportedOperationException.class, () -> x.feed(1, 2, 3, 4, 5));
        x.end(1581);
        check.fails("feed to 1601", UnsupportedOperationException.class, () -> x.feed(1, 2, 3, 4, 5));
        x.end(1580);
        check.same("feed to 1600", x.feed(1, 2, 3, 4, 5), 1600);
        check.same("raw of 1600", x.length(x.raw()), 1600);
        check.same("last word of 1600", x.word(1, 1596), 5);
    }

    private static void end() {
        Line line = new Line();
        RecordCalls x = line.x;
        check.fails("end(1) of nothing", IllegalArgumentException.class, () -> x.end(1));
        x.end(0);
        x.feed(0x01020304, 0x05060708, 0, 0, 0);
        check.fails("end(-1)", IllegalArgumentException.class, () -> x.end(-1));
        check.fails("end(lowest)", IllegalArgumentException.class, () -> x.end(Integer.MIN_VALUE));
        check.fails("end(21)", IllegalArgumentException.class, () -> x.end(21));
        check.fails("end(highest)", IllegalArgumentException.class, () -> x.end(Integer.MAX_VALUE));
        x.end(20);
        x.end(3);
        check.fails("end(4) of 3", IllegalArgumentException.class, () -> x.end(4));
        check.same("feed behind 3", x.feed(0x0a0b0c0d, 0, 0, 0, 0), 23);
        x.end(6);
        x.raw();
        check.same("kept", line.bytes(0), new byte[] {1, 2, 3, 10, 11, 12});
    }

    private static void raw() {
        Line line = new Line();
        RecordCalls x = line.x;
        check.same("raw of nothing", x.raw(), 0);
        check.same("its length", x.length(0), 0);
        line.tape((byte) 1, (byte) 255, (byte) 0);
        check.same("raw", x.raw(), 1);
        check.same("as it is", line.bytes(1), new byte[] {1, -1, 0});
        check.same("the tape is empty then", x.feed(1, 2, 3, 4, 5), 20);
        check.same("slots", x.count(0), 2);
        check.same("the slot stays", line.bytes(1), new byte[] {1, -1, 0});
    }

    private static void record() {
        Line line = new Line();
        RecordCalls x = line.x;
        check.same("empty record", x.record(7), 0);
        check.same("one empty fragment", line.bytes(0), new Message().words(1 << 31).bytes());
        line.tape("abcdefg");
        check.same("record of 3", x.record(3), 1);
        check.same("fragments of 3", line.bytes(1), new Message().words(3).plain((byte) 'a', (byte) 'b', (byte) 'c')
                .words(3).plain((byte) 'd', (byte) 'e', (byte) 'f').words(1 << 31 | 1).plain((byte) 'g').bytes());
        check.same("the tape is empty then", x.feed(1, 2, 3, 4, 5), 20);
        line.tape("abcd");
        x.record(2);
        check.same("no empty fragment behind", line.bytes(2), new Message().words(2).plain((byte) 'a', (byte) 'b')
                .words(1 << 31 | 2).plain((byte) 'c', (byte) 'd').bytes());
        line.tape("abcd");
        x.record(4);
        check.same("just one", line.bytes(3), new Message().words(1 << 31 | 4, 0x61626364).bytes());
        line.tape("abcd");
        x.record(Integer.MAX_VALUE);
        check.same("a large cut", line.bytes(4), line.bytes(3));
        line.tape("ab");
        x.record(1);
        check.same("single bytes", line.bytes(5), new Message().words(1).plain((byte) 'a')
                .words(1 << 31 | 1).plain((byte) 'b').bytes());
    }

    private static void recordLimits() {
        Line line = new Line();
        RecordCalls x = line.x;
        line.tape("ab");
        check.fails("record(0)", IllegalArgumentException.class, () -> x.record(0));
        check.fails("record(-1)", IllegalArgumentException.class, () -> x.record(-1));
        check.fails("record(lowest)", IllegalArgumentException.class, () -> x.record(Integer.MIN_VALUE));
        check.same("no slot", x.count(0), 0);
        check.same("the tape stays", x.feed(0, 0, 0, 0, 0), 22);
        line.tape(new byte[1597]);
        check.fails("1601 bytes", IllegalArgumentException.class, () -> x.record(1597));
        x.end(1596);
        check.fails("1604 bytes", IllegalArgumentException.class, () -> x.record(1595));
        check.same("1600 bytes", x.length(x.record(1596)), 1600);
        line.tape(new byte[320]);
        check.same("1600 bytes in 320", x.length(x.record(1)), 1600);
        line.tape(new byte[321]);
        check.fails("1605 bytes in 321", IllegalArgumentException.class, () -> x.record(1));
        check.same("in two by two", x.length(x.record(2)), 321 + 4 * 161);
    }

    private static void call() {
        Line line = new Line();
        RecordCalls x = line.x;
        line.tape("abcde");
        check.same("call", x.call(-7, 3, -4, true, 0x0102030405060708L), 0);
        check.same("its bytes", line.bytes(0),
                Message.call(-7, 3, -4).key("abcde").longOne(0x0102030405060708L).fragment());
        check.same("the tape is empty then", x.call(1, 2, 3, false, 9), 1);
        check.same("an empty key, no long one", line.bytes(1), Message.call(1, 2, 3).key("").fragment());
        line.tape("0123456789abcdef");
        x.call(1, 2, 2, true, -1);
        check.same("16 bytes", line.bytes(2), Message.call(1, 2, 2).key("0123456789abcdef").longOne(-1).fragment());
    }

    private static void callLimits() {
        Line line = new Line();
        RecordCalls x = line.x;
        line.tape("0123456789abcdefg");
        check.fails("17 bytes", IllegalArgumentException.class, () -> x.call(1, 1, 1, true, 1));
        check.same("no slot", x.count(0), 0);
        check.same("the tape stays", x.feed(0, 0, 0, 0, 0), 37);
    }

    private static void looks() {
        Line line = new Line();
        RecordCalls x = line.x;
        int slot = line.slot((byte) 1, (byte) 2, (byte) 3, (byte) 254, (byte) 255);
        check.same("length", x.length(slot), 5);
        check.same("byte 0", x.byteAt(slot, 0), 1);
        check.same("byte 4", x.byteAt(slot, 4), 255);
        check.same("word 0", x.word(slot, 0), 0x010203fe);
        check.same("word 1", x.word(slot, 1), 0x0203feff);
        for (int i : new int[] {-1, 5, 6, Integer.MIN_VALUE, Integer.MAX_VALUE}) {
            check.fails("byte " + i, IndexOutOfBoundsException.class, () -> x.byteAt(slot, i));
        }
        for (int i : new int[] {-1, -4, 2, 5, Integer.MIN_VALUE, Integer.MAX_VALUE, Integer.MAX_VALUE - 3}) {
            check.fails("word " + i, IndexOutOfBoundsException.class, () -> x.word(slot, i));
        }
        int little = line.slot((byte) 1, (byte) 2, (byte) 3);
        check.fails("word of three bytes", IndexOutOfBoundsException.class, () -> x.word(little, 0));
        for (int s : new int[] {-1, 2, 64, Integer.MIN_VALUE, Integer.MAX_VALUE}) {
            check.fails("length of " + s, IndexOutOfBoundsException.class, () -> x.length(s));
            check.fails("byte of " + s, IndexOutOfBoundsException.class, () -> x.byteAt(s, 0));
            check.fails("word of " + s, IndexOutOfBoundsException.class, () -> x.word(s, 0));
            check.fails("says of " + s, IndexOutOfBoundsException.class, () -> x.says(s, 0));
            check.fails("push of " + s, IndexOutOfBoundsException.class, () -> x.push(0, s, 0, 0));
        }
    }

    private static void latestSlots() {
        Line line = new Line();
        RecordCalls x = line.x;
        for (int i = 0; i < 64; i++) {
            check.same("slot", line.slot(new byte[i]), i);
        }
        check.same("the first of 64", x.length(0), 0);
        line.slot(new byte[100]);
        check.fails("the first of 65", IndexOutOfBoundsException.class, () -> x.length(0));
        check.same("the second of 65", x.length(1), 1);
        check.same("the last of 65", x.length(64), 100);
        check.same("made", x.count(0), 65);
    }
}
