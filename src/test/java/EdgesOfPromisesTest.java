/** The boundary cases that the document names of the face's methods, sentence by sentence. */
public final class EdgesOfPromisesTest {
    private static final Check check = new Check("EdgesOfPromisesTest");
    private static final int LAST = 1 << 31;
    private static final int LOWEST = Integer.MIN_VALUE;
    private static final int HIGHEST = Integer.MAX_VALUE;
    private static final byte[] CALL = Message.call(1, 1, 0).fragment();

    public static void main(String[] args) {
        check.sentence("No slots, an empty map, connections open.", EdgesOfPromisesTest::newObject);
        check.sentence("Twenty bytes more of the tape, the highest of each number first: how many it has.",
                EdgesOfPromisesTest::feedHighestFirst);
        check.sentence("UnsupportedOperationException: they would be more than 1600.",
                EdgesOfPromisesTest::feedUpTo1600);
        check.sentence("The tape keeps its first n bytes.", EdgesOfPromisesTest::endKeepsTheFirst);
        check.sentence("IllegalArgumentException: n is below 0, or it has not so many.",
                EdgesOfPromisesTest::endBelow0OrTooMany);
        check.sentence("The tape (which is empty then) is a new slot as it is: its number.", EdgesOfPromisesTest::raw);
        check.sentence("The tape is a record, cut into fragments of so many bytes (the last one may have less)",
                EdgesOfPromisesTest::recordCut);
        check.sentence("an empty one is one fragment", EdgesOfPromisesTest::recordOfNothing);
        check.sentence("IllegalArgumentException: cut is below 1", EdgesOfPromisesTest::recordCutBelow1);
        check.sentence("or there would be more than 1600 bytes.", EdgesOfPromisesTest::recordAbove1600);
        check.sentence("A call with a number, version and procedure, from nobody (0, no bytes), with no proof",
                EdgesOfPromisesTest::callAsItIs);
        check.sentence("IllegalArgumentException: the tape has more than 16 bytes.",
                EdgesOfPromisesTest::callOfAKeyUpTo16);
        check.sentence("n bytes of a slot, from one on, are pushed into a connection: how many replies there were.",
                EdgesOfPromisesTest::pushOfBytes);
        check.sentence("IndexOutOfBoundsException: also when these bytes are not all there, or n is below 0.",
                EdgesOfPromisesTest::pushOfBytesNotThere);
        check.sentence("A connection is opened anew: whether it was broken.", EdgesOfPromisesTest::open);
        check.sentence("How many bytes a slot has.", EdgesOfPromisesTest::length);
        check.sentence("Byte i of a slot, 0 .. 255.", EdgesOfPromisesTest::byteAt);
        check.sentence("The word that begins at byte i of a slot.", EdgesOfPromisesTest::word);
        check.sentence("IndexOutOfBoundsException: four bytes are not there.", EdgesOfPromisesTest::wordNotThere);
        check.sentence("its code 0 .. 4; 5 refused for its third word, 10 and the code, refused for who calls or a proof",
                EdgesOfPromisesTest::saysCodes);
        check.sentence("-1 if it is no whole record", EdgesOfPromisesTest::saysNoWholeRecord);
        check.sentence("-1 if it is no whole record with a reply as messages are", EdgesOfPromisesTest::saysNoReply);
        check.sentence("of code 0 and behind: anything; else just these words",
                EdgesOfPromisesTest::saysJustTheseWords);
        check.sentence("-2 if it is one for another number", EdgesOfPromisesTest::saysAnotherNumber);
        check.sentence("The value of the key that the tape has (which stays); 0 without.", EdgesOfPromisesTest::value);
        check.sentence("Whether the map has the key that the tape has.", EdgesOfPromisesTest::has);
        check.sentence("what = 0 slots that were made, 1 keys", EdgesOfPromisesTest::countSlotsAndKeys);
        check.sentence("2 calls that were done with code 0", EdgesOfPromisesTest::countDone);
        check.sentence("3 repeated ones, 4 bad ones", EdgesOfPromisesTest::countRepeatedAndBad);
        check.sentence("5 + c bytes of the record that is not whole yet (without fragments' words), NONE when it is broken",
                EdgesOfPromisesTest::countBytes);
        check.sentence("IllegalArgumentException: what is none of these.", EdgesOfPromisesTest::countNoneOfThese);
        check.finish();
    }

    private static void newObject() {
        RecordCalls x = new RecordCalls();
        for (int what = 0; what <= 8; what++) {
            check.same("count " + what, x.count(what), 0);
        }
        check.fails("no slot", IndexOutOfBoundsException.class, () -> x.length(0));
        check.same("not even the empty key", x.has(), false);
        check.same("its value", x.value(), 0);
        for (int c = 0; c < 4; c++) {
            check.same("not broken", x.open(c), false);
        }
        check.same("an empty tape", x.length(x.raw()), 0);
        RecordCalls other = new RecordCalls();
        check.same("another has its own slots", other.count(0), 0);
    }

    private static void feedHighestFirst() {
        RecordCalls x = new RecordCalls();
        check.same("twenty", x.feed(0x80010203, 0x04050607, 0x08090a0b, 0x0c0d0e0f, 0x101112ff), 20);
        check.same("forty", x.feed(-1, LOWEST, HIGHEST, 0, 1), 40);
        x.end(21);
        check.same("behind 21", x.feed(0, 0, 0, 0, 0), 41);
        x.raw();
        int[] due = {128, 1, 2, 3, 4, 5, 6, 7, 8, 9, 10, 11, 12, 13, 14, 15, 16, 17, 18, 255, 255, 0};
        for (int i = 0; i < due.length; i++) {
            check.same("byte " + i, x.byteAt(0, i), due[i]);
        }
    }

    private static void feedUpTo1600() {
        Line line = new Line();
        RecordCalls x = line.x;
        for (int i = 1; i <= 80; i++) {
            check.same("feed " + i, x.feed(i, i, i, i, i), 20 * i);
        }
        check.fails("to 1620", UnsupportedOperationException.class, () -> x.feed(1, 2, 3, 4, 5));
        for (int n : new int[] {1599, 1590, 1581}) {
            x.end(n);
            check.fails("to " + (n + 20), UnsupportedOperationException.class, () -> x.feed(1, 2, 3, 4, 5));
        }
        x.end(1580);
        check.same("to 1600", x.feed(1, 2, 3, 4, 5), 1600);
        int slot = x.raw();
        check.same("all of them", x.length(slot), 1600);
        check.same("the last", x.word(slot, 1596), 5);
        check.same("one before", x.word(slot, 1576), 79);
    }

    private static void endKeepsTheFirst() {
        for (int n : new int[] {0, 1, 19, 20}) {
            Line line = new Line();
            line.x.feed(0x01020304, 0x05060708, 0x090a0b0c, 0x0d0e0f10, 0x11121314);
            line.x.end(n);
            check.same("slot", line.x.raw(), 0);
            check.same("length", line.x.length(0), n);
            for (int i = 0; i < n; i++) {
                check.same("byte " + i, line.x.byteAt(0, i), i + 1);
            }
        }
        RecordCalls x = new RecordCalls();
        x.end(0);
        check.same("none of none", x.feed(0, 0, 0, 0, 0), 20);
    }

    private static void endBelow0OrTooMany() {
        RecordCalls x = new RecordCalls();
        for (int n : new int[] {1, 20, -1, LOWEST, HIGHEST}) {
            check.fails("end " + n + " of none", IllegalArgumentException.class, () -> x.end(n));
        }
        x.feed(1, 2, 3, 4, 5);
        for (int n : new int[] {21, 22, 1600, -1, -20, LOWEST, HIGHEST}) {
            check.fails("end " + n + " of 20", IllegalArgumentException.class, () -> x.end(n));
        }
        x.end(7);
        check.fails("end 8 of 7", IllegalArgumentException.class, () -> x.end(8));
        x.end(7);
        check.same("seven stay", x.length(x.raw()), 7);
        check.fails("end 1 of an empty tape", IllegalArgumentException.class, () -> x.end(1));
    }

    private static void raw() {
        Line line = new Line();
        check.same("an empty one", line.x.raw(), 0);
        check.same("its length", line.x.length(0), 0);
        line.tape((byte) -1, (byte) 0, (byte) 1);
        check.same("three bytes", line.x.raw(), 1);
        check.same("the tape is empty", line.x.raw(), 2);
        check.same("so its slot is", line.x.length(2), 0);
        check.same("as it is", line.bytes(1), new byte[] {-1, 0, 1});
        line.tape(new byte[1600]);
        check.same("1600 bytes", line.x.length(line.x.raw()), 1600);
        line.tape((byte) 9);
        check.same("a new tape", line.x.raw(), 4);
        check.same("does not change a slot", line.bytes(1), new byte[] {-1, 0, 1});
    }

    private static void recordCut() {
        byte[] bytes = "0123456789ab".getBytes(java.nio.charset.StandardCharsets.ISO_8859_1);
        for (int cut : new int[] {1, 2, 3, 4, 5, 6, 7, 11, 12, 13, 1600, HIGHEST - 3, HIGHEST}) {
            Line line = new Line();
            line.tape(bytes);
            Message due = new Message();
            int at = 0;
            while (bytes.length - at > cut) {
                due.words(cut).plain(java.util.Arrays.copyOfRange(bytes, at, at + cut));
                at += cut;
            }
            due.words(LAST | bytes.length - at).plain(java.util.Arrays.copyOfRange(bytes, at, bytes.length));
            check.same("slot", line.x.record(cut), 0);
            check.same("cut " + cut, line.bytes(0), due.bytes());
            check.same("the tape is empty then", line.x.length(line.x.raw()), 0);
        }
    }

    private static void recordOfNothing() {
        for (int cut : new int[] {1, 2, HIGHEST}) {
            Line line = new Line();
            check.same("slot", line.x.record(cut), 0);
            check.same("cut " + cut, line.bytes(0), new Message().words(LAST).bytes());
        }
    }

    private static void recordCutBelow1() {
        Line line = new Line();
        RecordCalls x = line.x;
        for (int cut : new int[] {0, -1, LOWEST, LOWEST + 1}) {
            check.fails("cut " + cut + " of nothing", IllegalArgumentException.class, () -> x.record(cut));
        }
        line.tape("abc");
        for (int cut : new int[] {0, -1, LOWEST, LOWEST + 1}) {
            check.fails("cut " + cut, IllegalArgumentException.class, () -> x.record(cut));
        }
        check.same("cut 1", x.record(1), 0);
    }

    private static void recordAbove1600() {
        int[][] just = {{1596, 1596, 1600}, {1596, HIGHEST, 1600}, {1592, 796, 1600}, {1592, 1591, 1600},
            {320, 1, 1600}, {532, 2, 1596}, {1280, 16, 1600}};
        for (int[] j : just) {
            Line line = new Line();
            line.tape(new byte[j[0]]);
            check.same(j[0] + " by " + j[1], line.x.length(line.x.record(j[1])), j[2]);
        }
        int[][] above = {{1597, 1597}, {1600, HIGHEST}, {1596, 1595}, {1593, 797}, {321, 1}, {533, 2}, {1281, 16},
            {1600, 1}};
        for (int[] a : above) {
            Line line = new Line();
            line.tape(new byte[a[0]]);
            check.fails(a[0] + " by " + a[1], IllegalArgumentException.class, () -> line.x.record(a[1]));
            check.same("no slot", line.x.count(0), 0);
            check.same("the tape stays", line.x.length(line.x.raw()), a[0]);
        }
    }

    private static void callAsItIs() {
        int[] words = {0, 1, -1, LOWEST, HIGHEST};
        for (int w : words) {
            Line line = new Line();
            check.same("slot", line.x.call(w, ~w, w + 1, false, 5), 0);
            check.same("without a long one", line.bytes(0), new Message()
                    .words(LAST | 44, w, 0, 2, 400100, ~w, w + 1, 0, 0, 0, 0, 0).bytes());
            check.same("slot", line.x.call(w, ~w, w + 1, true, w), 1);
            check.same("with a long one", line.bytes(1), new Message()
                    .words(LAST | 52, w, 0, 2, 400100, ~w, w + 1, 0, 0, 0, 0, 0).longOne(w).bytes());
        }
    }

    private static void callOfAKeyUpTo16() {
        for (int n : new int[] {0, 1, 15, 16}) {
            Line line = new Line();
            line.tape("k".repeat(n));
            check.same(n + " bytes", line.x.call(1, 1, 1, true, 3), 0);
            check.same("its bytes", line.bytes(0), Message.call(1, 1, 1).key("k".repeat(n)).longOne(3).fragment());
            check.same("the tape is empty then", line.x.length(line.x.raw()), 0);
        }
        for (int n : new int[] {17, 18, 20, 1600}) {
            Line line = new Line();
            line.tape(new byte[n]);
            check.fails(n + " bytes", IllegalArgumentException.class, () -> line.x.call(1, 1, 1, true, 3));
            check.fails("not long", IllegalArgumentException.class, () -> line.x.call(1, 1, 0, false, 0));
            check.same("no slot", line.x.count(0), 0);
            check.same("the tape stays", line.x.length(line.x.raw()), n);
        }
    }

    private static void pushOfBytes() {
        Line line = new Line();
        RecordCalls x = line.x;
        int slot = line.slot(new Message().zeros(3).plain(CALL).plain(CALL).zeros(5).bytes());
        check.same("none", x.push(0, slot, 0, 0), 0);
        check.same("none in the middle", x.push(0, slot, 3, 0), 0);
        check.same("none at the end", x.push(0, slot, 96, 0), 0);
        check.same("both", x.push(0, slot, 3, 88), 2);
        check.same("one", x.push(1, slot, 47, 44), 1);
        check.same("up to the last byte", x.push(2, slot, 47, 49), 1);
        check.same("what is behind waits", x.push(2, slot, 95, 1), 0);
        check.same("nothing of it", x.count(4), 0);
        check.same("the slot stays", x.length(slot), 96);
        int empty = x.raw();
        check.same("none of none", x.push(0, empty, 0, 0), 0);
    }

    private static void pushOfBytesNotThere() {
        Line line = new Line();
        RecordCalls x = line.x;
        int slot = line.slot(CALL);
        int empty = x.raw();
        int[][] wrong = {{0, 45}, {1, 44}, {43, 2}, {44, 1}, {45, 1}, {-1, 1}, {-1, 45}, {-44, 44}, {0, -1}, {44, -1},
            {1, -1}, {0, HIGHEST}, {1, HIGHEST}, {HIGHEST, 1}, {HIGHEST, HIGHEST}, {0, LOWEST}, {LOWEST, 1},
            {LOWEST, LOWEST}, {LOWEST, HIGHEST}, {HIGHEST, LOWEST}, {-1, HIGHEST}, {45, 0}, {-1, 0}, {HIGHEST, 0}};
        for (int[] w : wrong) {
            check.fails("push " + java.util.Arrays.toString(w), IndexOutOfBoundsException.class,
                    () -> x.push(0, slot, w[0], w[1]));
        }
        check.fails("one of none", IndexOutOfBoundsException.class, () -> x.push(0, empty, 0, 1));
        for (int s : new int[] {-1, 2, 63, 64, LOWEST, HIGHEST}) {
            check.fails("slot " + s, IndexOutOfBoundsException.class, () -> x.push(0, s, 0, 0));
        }
        check.same("nothing was pushed", x.count(5), 0);
        check.same("nothing is done", x.count(2), 0);
        check.same("nothing of it is left", x.push(0, slot, 0, 44), 1);
    }

    private static void open() {
        Line line = new Line();
        for (int c = 0; c < 4; c++) {
            check.same("not broken", line.x.open(c), false);
            line.push(c, new Message().words(1201).bytes());
            for (int other = 0; other < 4; other++) {
                check.same("broken is " + other, line.x.count(5 + other), other == c ? -1 : 0);
            }
            check.same("broken", line.x.open(c), true);
            check.same("no more", line.x.open(c), false);
        }
    }

    private static void length() {
        Line line = new Line();
        for (int n : new int[] {0, 1, 255, 256, 1600}) {
            check.same(n + " bytes", line.x.length(line.slot(new byte[n])), n);
        }
        for (int s : new int[] {-1, 5, 64, -64, LOWEST, HIGHEST}) {
            check.fails("slot " + s, IndexOutOfBoundsException.class, () -> line.x.length(s));
        }
    }

    private static void byteAt() {
        Line line = new Line();
        RecordCalls x = line.x;
        int slot = line.slot((byte) 0, (byte) 127, (byte) 128, (byte) 255);
        int[] due = {0, 127, 128, 255};
        for (int i = 0; i < 4; i++) {
            check.same("byte " + i, x.byteAt(slot, i), due[i]);
        }
        for (int i : new int[] {-1, 4, 5, 1600, LOWEST, HIGHEST}) {
            check.fails("byte " + i, IndexOutOfBoundsException.class, () -> x.byteAt(slot, i));
        }
        int empty = x.raw();
        check.fails("byte 0 of none", IndexOutOfBoundsException.class, () -> x.byteAt(empty, 0));
        check.fails("slot -1", IndexOutOfBoundsException.class, () -> x.byteAt(-1, 0));
        check.fails("slot 2", IndexOutOfBoundsException.class, () -> x.byteAt(2, 0));
    }

    private static void word() {
        Line line = new Line();
        int slot = line.slot((byte) 0x80, (byte) 0xff, (byte) 1, (byte) 2, (byte) 0xfe, (byte) 3, (byte) 4);
        int[] due = {0x80ff0102, 0xff0102fe, 0x0102fe03, 0x02fe0304};
        for (int i = 0; i < due.length; i++) {
            check.same("word at " + i, line.x.word(slot, i), due[i]);
        }
    }

    private static void wordNotThere() {
        for (int n = 0; n <= 5; n++) {
            Line line = new Line();
            int slot = line.slot(new byte[n]);
            int first = Math.max(0, n - 3);
            for (int i : new int[] {first, first + 1, n, n + 1, -1, -4, LOWEST, HIGHEST, HIGHEST - 3, HIGHEST - 4}) {
                check.fails("word at " + i + " of " + n, IndexOutOfBoundsException.class, () -> line.x.word(slot, i));
            }
            if (n >= 4) {
                check.same("the last word of " + n, line.x.word(slot, n - 4), 0);
            }
        }
        Line line = new Line();
        line.slot(new byte[4]);
        check.fails("slot -1", IndexOutOfBoundsException.class, () -> line.x.word(-1, 0));
        check.fails("slot 1", IndexOutOfBoundsException.class, () -> line.x.word(1, 0));
    }

    private static int said(byte[] slot, int number) {
        Line line = new Line();
        return line.x.says(line.slot(slot), number);
    }

    private static void saysCodes() {
        check.same("code 2", said(Message.accepted(7, 2).words(1, 2).fragment(), 7), 2);
        for (int code : new int[] {0, 1, 3, 4}) {
            check.same("code " + code, said(Message.accepted(7, code).fragment(), 7), code);
        }
        check.same("third word", said(Message.refused(7, 0, 2, 2).fragment(), 7), 5);
        check.same("who calls", said(Message.refused(7, 1, 1).fragment(), 7), 11);
        check.same("a proof", said(Message.refused(7, 1, 3).fragment(), 7), 13);
        RecordCalls x = new RecordCalls();
        check.fails("no slot", IndexOutOfBoundsException.class, () -> x.says(0, 7));
        check.fails("slot -1", IndexOutOfBoundsException.class, () -> x.says(-1, 7));
        check.fails("slot " + HIGHEST, IndexOutOfBoundsException.class, () -> x.says(HIGHEST, 7));
    }

    private static void saysNoWholeRecord() {
        byte[] reply = Message.accepted(7, 0).bytes();
        byte[] whole = Message.accepted(7, 0).fragment();
        for (int n = 0; n < whole.length; n++) {
            check.same(n + " bytes", said(java.util.Arrays.copyOf(whole, n), 7), -1);
        }
        for (int n = 1; n <= 5; n++) {
            check.same(n + " bytes behind", said(java.util.Arrays.copyOf(whole, whole.length + n), 7), -1);
        }
        check.same("not the last fragment", said(new Message().words(24).plain(reply).bytes(), 7), -1);
        check.same("a word too small", said(new Message().words(LAST | 23).plain(reply).bytes(), 7), -1);
        check.same("a word too large", said(new Message().words(LAST | 25).plain(reply).bytes(), 7), -1);
        check.same("the largest word", said(new Message().words(-1).plain(reply).bytes(), 7), -1);
        check.same("the largest, not the last", said(new Message().words(HIGHEST).plain(reply).bytes(), 7), -1);
        check.same("two fragments", said(new Message().words(20, 7, 1, 0, 0, 0, LAST | 4, 0).bytes(), 7), 0);
        check.same("the second not whole", said(new Message().words(20, 7, 1, 0, 0, 0, LAST | 4).bytes(), 7), -1);
        check.same("the second too large", said(new Message().words(24).plain(reply).words(-1).bytes(), 7), -1);
        check.same("an empty last one", said(new Message().words(24).plain(reply).words(LAST).bytes(), 7), 0);
        check.same("two records", said(new Message().plain(whole).plain(whole).bytes(), 7), -1);
    }

    private static void saysNoReply() {
        check.same("an empty record", said(new Message().words(LAST).bytes(), 7), -1);
        byte[][] replies = {Message.accepted(7, 0).bytes(), Message.accepted(7, 2).words(1, 2).bytes(),
            Message.refused(7, 0, 2, 2).bytes(), Message.refused(7, 1, 1).bytes(), Message.refused(7, 1, 3).bytes()};
        for (byte[] reply : replies) {
            for (int n = 0; n < reply.length; n++) {
                byte[] front = java.util.Arrays.copyOf(reply, n);
                check.same(n + " bytes of a reply", said(new Message().plain(front).fragment(), 7), -1);
            }
            // Every bit of every word but the number matters.
            for (int bit = 32; bit < 8 * reply.length; bit++) {
                byte[] other = reply.clone();
                other[bit / 8] ^= 1 << bit % 8;
                check.same("bit " + bit, said(new Message().plain(other).fragment(), 7), saidByWords(other));
            }
        }
    }

    /** What these bytes say, looked up among all replies that say something to 7. */
    private static int saidByWords(byte[] reply) {
        int[][] all = {{7, 1, 0, 0, 0, 1}, {7, 1, 0, 0, 0, 2, 1, 2}, {7, 1, 0, 0, 0, 3}, {7, 1, 0, 0, 0, 4},
            {7, 1, 1, 0, 2, 2}, {7, 1, 1, 1, 1}, {7, 1, 1, 1, 3}};
        int[] says = {1, 2, 3, 4, 5, 11, 13};
        for (int i = 0; i < all.length; i++) {
            if (java.util.Arrays.equals(reply, new Message().words(all[i]).bytes())) {
                return says[i];
            }
        }
        byte[] done = Message.accepted(7, 0).bytes();
        return reply.length >= 24 && java.util.Arrays.equals(java.util.Arrays.copyOf(reply, 24), done) ? 0 : -1;
    }

    private static void saysJustTheseWords() {
        for (int n : new int[] {0, 1, 2, 3, 4, 5, 400, 1176, 1177, 1572}) {
            check.same("code 0 and " + n, said(Message.accepted(7, 0).zeros(n).fragment(), 7), 0);
        }
        for (int n = 1; n <= 8; n++) {
            for (int code : new int[] {1, 3, 4, 5}) {
                check.same("code " + code + " and " + n, said(Message.accepted(7, code).zeros(n).fragment(), 7), -1);
            }
            check.same("code 2 and " + n, said(Message.accepted(7, 2).words(1, 2).zeros(n).fragment(), 7), -1);
            check.same("third word and " + n, said(Message.refused(7, 0, 2, 2).zeros(n).fragment(), 7), -1);
            check.same("who calls and " + n, said(Message.refused(7, 1, 1).zeros(n).fragment(), 7), -1);
            check.same("a proof and " + n, said(Message.refused(7, 1, 3).zeros(n).fragment(), 7), -1);
        }
        int[][] versions = {{0, 2}, {1, 1}, {1, 3}, {2, 1}, {2, 2}, {1, -2}};
        for (int[] v : versions) {
            check.same("code 2 and others", said(Message.accepted(7, 2).words(v).fragment(), 7), -1);
        }
        for (int code : new int[] {5, 6, 10, 11, -1, LOWEST, HIGHEST}) {
            check.same("code " + code, said(Message.accepted(7, code).fragment(), 7), -1);
        }
        for (int code : new int[] {0, 2, 4, 5, -1, LOWEST, HIGHEST}) {
            check.same("refused, 1, " + code, said(Message.refused(7, 1, code).fragment(), 7), -1);
        }
    }

    private static void saysAnotherNumber() {
        Message[] replies = {Message.accepted(7, 0), Message.accepted(7, 0).zeros(3), Message.accepted(7, 1),
            Message.accepted(7, 2).words(1, 2), Message.refused(7, 0, 2, 2), Message.refused(7, 1, 1),
            Message.refused(7, 1, 3)};
        for (int i = 0; i < replies.length; i++) {
            for (int number : new int[] {6, 8, 0, -7, 7 | 1 << 31, LOWEST, HIGHEST}) {
                check.same("reply " + i + " to " + number, said(replies[i].fragment(), number), -2);
            }
        }
        check.same("no reply to another", said(Message.accepted(7, 5).fragment(), 8), -1);
        check.same("a call", said(CALL, 2), -1);
        check.same("a call to its own", said(CALL, 1), -1);
    }

    private static void value() {
        Line line = new Line();
        line.set(0, 1, "", 5);
        line.set(0, 2, "0123456789abcdef", Long.MIN_VALUE);
        check.same("of an empty tape", line.value(""), 5);
        check.same("of 16 bytes", line.value("0123456789abcdef"), Long.MIN_VALUE);
        check.same("it stays", line.x.value(), Long.MIN_VALUE);
        check.same("of 15 bytes", line.value("0123456789abcde"), 0);
        check.same("of 17 bytes", line.value("0123456789abcdef0"), 0);
        check.same("17 stay", line.x.length(line.x.raw()), 17);
        line.tape(new byte[1600]);
        check.same("of 1600 bytes", line.x.value(), 0);
        check.same("1600 stay", line.x.length(line.x.raw()), 1600);
    }

    private static void has() {
        Line line = new Line();
        check.same("of an empty map", line.has(""), false);
        line.set(0, 1, "ab", 0);
        check.same("with the value 0", line.has("ab"), true);
        check.same("the tape stays", line.x.has(), true);
        for (String other : new String[] {"", "a", "abc", "ab\0", "AB", "ba", "ab".repeat(9)}) {
            check.same("not " + other, line.has(other), false);
        }
        line.set(0, 2, "0123456789abcdef", 0);
        check.same("16 bytes", line.has("0123456789abcdef"), true);
        check.same("17 bytes", line.has("0123456789abcdefg"), false);
    }

    private static void countSlotsAndKeys() {
        Line line = new Line();
        for (int i = 1; i <= 70; i++) {
            line.x.raw();
            check.same("slots", line.x.count(0), i);
        }
        line.set(0, 1, "a", 1);
        line.set(0, 2, "a", 2);
        line.set(0, 3, "b", 2);
        check.same("slots", line.x.count(0), 76);
        check.same("keys", line.x.count(1), 2);
        line.send(0, Message.call(4, 2, 6).key("a"));
        check.same("keys then", line.x.count(1), 1);
    }

    private static void countDone() {
        Line line = new Line();
        line.send(0, Message.call(1, 1, 0));
        check.same("nothing taken", line.x.count(2), 1);
        line.send(0, Message.call(2, 1, 2).key("a"));
        check.same("a key not there", line.x.count(2), 2);
        line.send(0, Message.call(3, 1, 2));
        line.send(0, Message.call(4, 1, 7));
        line.send(0, Message.call(5, 3, 0));
        line.send(0, new Message().words(6, 0, 2, 1, 1, 0, 0, 0, 0, 0));
        line.send(0, new Message().words(7, 0, 3));
        line.send(0, new Message().words(8, 0, 2, Message.PROGRAM, 1, 0, 2, 0, 0, 0));
        line.send(1, new Message().words(8, 0, 2, Message.PROGRAM, 1, 0, 0, 0, 2, 0));
        line.send(0, Message.call(1, 1, 0));
        line.send(0, new Message().words(9));
        check.same("no others", line.x.count(2), 2);
        line.send(1, Message.call(1, 1, 0));
        check.same("of another connection", line.x.count(2), 3);
    }

    private static void countRepeatedAndBad() {
        Line line = new Line();
        line.send(0, new Message().words(1, 0, 3));
        line.send(0, Message.call(1, 1, 0));
        check.same("repeated after a refusal", line.x.count(3), 1);
        line.send(1, Message.call(1, 1, 0));
        check.same("not of another connection", line.x.count(3), 1);
        line.send(1, new Message().words(1, 0));
        check.same("of this one", line.x.count(3), 2);
        check.same("none bad", line.x.count(4), 0);
        line.send(0, new Message().words(1));
        line.send(1, new Message().words(1, 1));
        line.send(2, new Message().words(1, 0));
        line.send(3, new Message().words(1, 0, 2));
        line.send(3, new Message().words(1, 0, 2, 0, 0, 0, 0, 401, 0, 0));
        check.same("bad", line.x.count(4), 5);
        line.push(0, new Message().words(-1).bytes());
        check.same("a break is none", line.x.count(4), 5);
        check.same("repeated still", line.x.count(3), 2);
    }

    private static void countBytes() {
        for (int c = 0; c < 4; c++) {
            Line line = new Line();
            int slot = line.slot(new Message().words(2).zeros(2).words(0, 3).zeros(3).words(LAST | 1).zeros(1).bytes());
            int[] due = {0, 0, 0, 0, 1, 2, 2, 2, 2, 2, 2, 2, 2, 2, 3, 4, 5, 5, 5, 5, 5, 0};
            for (int i = 0; i < due.length; i++) {
                line.x.push(c, slot, i, 1);
                check.same("after " + (i + 1) + " bytes", line.x.count(5 + c), due[i]);
            }
            check.same("a bad one", line.x.count(4), 1);
            line.push(c, new Message().words(1).zeros(1).words(1200).bytes());
            check.same("broken", line.x.count(5 + c), RecordCalls.NONE);
            check.same("NONE", RecordCalls.NONE, -1);
            line.x.open(c);
            check.same("opened", line.x.count(5 + c), 0);
        }
    }

    private static void countNoneOfThese() {
        RecordCalls x = new RecordCalls();
        for (int what : new int[] {-1, -2, -5, 9, 10, 64, LOWEST, LOWEST + 4, LOWEST + 5, LOWEST + 6, HIGHEST}) {
            check.fails("count " + what, IllegalArgumentException.class, () -> x.count(what));
        }
        for (int what = 0; what <= 8; what++) {
            check.same("count " + what, x.count(what), 0);
        }
    }
}
