/** The boundary cases that the document names of words, fragments and messages, sentence by sentence. */
public final class EdgesOfMessagesTest {
    private static final Check check = new Check("EdgesOfMessagesTest");
    private static final String SIXTEEN = "0123456789abcdef";
    private static final int LAST = 1 << 31;
    private static final int[] ENDS = {0, 1, -1, 0x80000000, 0x7fffffff, 0x00ffffff, 0xff000000, 0x01020304};
    private static final long[] LONG_ENDS = {0, 1, -1, Long.MIN_VALUE, Long.MAX_VALUE, 0x80000000L, 0xffffffffL,
        1L << 32, 0x0102030405060708L};

    public static void main(String[] args) {
        check.sentence("A WORD is four bytes, the highest first", EdgesOfMessagesTest::word);
        check.sentence("a LONG ONE two words", EdgesOfMessagesTest::longOne);
        check.sentence("a TRUTH a word 0 or 1", EdgesOfMessagesTest::truth);
        check.sentence("as many bytes 0 as make these a multiple of four", EdgesOfMessagesTest::bytesAreFilled);
        check.sentence("as many bytes 0 as make these a multiple of four: wrong ones",
                EdgesOfMessagesTest::bytesNotFilled);
        check.sentence("a word that tells how many, these", EdgesOfMessagesTest::bytesWithoutEnd);
        check.sentence("a KEY bytes up to 16", EdgesOfMessagesTest::keyUpTo16);
        check.sentence("a KEY bytes up to 16: more are not taken", EdgesOfMessagesTest::keyAbove16);
        check.sentence("An object is used for at most 512 calls after it has been made", EdgesOfMessagesTest::calls512);
        check.sentence("each has a word before it, its length", EdgesOfMessagesTest::fragmentWord);
        check.sentence("2^31 more when it is the last one of its record", EdgesOfMessagesTest::lastFragment);
        check.sentence("(It may be empty.)", EdgesOfMessagesTest::emptyFragments);
        check.sentence("NUMBER (any)", EdgesOfMessagesTest::numberIsAny);
        check.sentence("PROGRAM 400100", EdgesOfMessagesTest::programIs400100);
        check.sentence("a word F and bytes up to 400 (who calls)", EdgesOfMessagesTest::callerUpTo400);
        check.sentence("a word and bytes up to 400 likewise (a proof)", EdgesOfMessagesTest::proofUpTo400);
        check.sentence("A REPLY: the words NUMBER (the call's), 1, and", EdgesOfMessagesTest::replies);
        check.finish();
    }

    private static void word() {
        for (int w : ENDS) {
            RecordCalls x = new RecordCalls();
            x.feed(0, w, 0, 0, 0);
            x.raw();
            for (int i = 0; i < 4; i++) {
                check.same("byte " + i + " of " + w, x.byteAt(0, 4 + i), w >>> 24 - 8 * i & 255);
            }
            check.same("word " + w, x.word(0, 4), w);
        }
    }

    private static void longOne() {
        for (long v : LONG_ENDS) {
            Line line = new Line();
            int call = line.x.call(1, 1, 1, true, v);
            check.same("high word of " + v, line.x.word(call, 48), (int) (v >> 32));
            check.same("low word of " + v, line.x.word(call, 52), (int) v);
            check.same("pushed", line.x.push(0, call, 0, 56), 1);
            check.same("taken", line.x.value(), v);
            check.same("given", line.send(0, Message.call(2, 1, 2).key("")),
                    Message.accepted(2, 0).words(0, (int) (v >> 32), (int) v).bytes());
        }
    }

    private static void truth() {
        Line line = new Line();
        check.same("0", line.send(0, Message.call(1, 2, 6).key("a")), Message.accepted(1, 0).words(0).bytes());
        line.set(0, 2, "a", -1);
        check.same("1", line.send(0, Message.call(3, 2, 6).key("a")), Message.accepted(3, 0).words(1).bytes());
    }

    private static void bytesAreFilled() {
        for (int n = 0; n <= 16; n++) {
            int filled = (n + 3) / 4 * 4;
            String key = "\u00ff".repeat(n);
            Line line = new Line();
            line.tape(key);
            int call = line.x.call(1, 1, 1, true, 5);
            check.same("length with " + n, line.x.length(call), 44 + 4 + filled + 8);
            check.same("word before " + n, line.x.word(call, 44), n);
            for (int i = 0; i < filled; i++) {
                check.same("byte " + i + " of " + n, line.x.byteAt(call, 48 + i), i < n ? 255 : 0);
            }
            line.x.push(0, call, 0, 56 + filled);
            check.same("the key of " + n, line.value(key), 5);
            check.same("given back", line.send(0, Message.call(2, 2, 5).words(0, 1)),
                    Message.accepted(2, 0).words(1).key(key).longOne(5).words(0).bytes());
        }
    }

    private static void bytesNotFilled() {
        for (int n = 1; n <= 16; n++) {
            int fill = (4 - n % 4) % 4;
            for (int i = 0; i < fill; i++) {
                Message wrong = Message.call(1, 1, 2).words(n).zeros(n + i).plain((byte) 128).zeros(fill - 1 - i);
                check.same(n + " filled with 128 at " + i, new Line().saidTo(0, wrong), 4);
                check.same(n + " filled with " + i, new Line().saidTo(0, Message.call(1, 1, 2).words(n).zeros(n + i)), 4);
            }
            check.same(n + " filled with 4 more",
                    new Line().saidTo(0, Message.call(1, 1, 2).words(n).zeros(n + fill + 4)), 4);
        }
    }

    private static void bytesWithoutEnd() {
        for (int n : new int[] {-1, -4, -16, 0x80000000, 0x80000004, 0x7fffffff, 0x7ffffffc, 0x40000000}) {
            check.same("a key of " + n, new Line().saidTo(0, Message.call(1, 1, 2).words(n).zeros(16)), 4);
            check.same("who calls of " + n, new Line().saidTo(0,
                    new Message().words(1, 0, 2, Message.PROGRAM, 1, 0, 1, n, 0, 0, 0, 0)), -1);
            check.same("a proof of " + n, new Line().saidTo(0,
                    new Message().words(1, 0, 2, Message.PROGRAM, 1, 0, 0, 0, 0, n, 0, 0)), -1);
        }
    }

    private static Message taking(int procedure, String key) {
        Message call = Message.call(1, 2, procedure);
        if (procedure == 4) {
            call.words(1);
        }
        call.key(key);
        return procedure == 1 || procedure == 3 ? call.longOne(3) : call;
    }

    private static void keyUpTo16() {
        for (int procedure : new int[] {1, 2, 3, 4, 6}) {
            check.same("0 bytes to " + procedure, new Line().saidTo(0, taking(procedure, "")), 0);
            check.same("16 bytes to " + procedure, new Line().saidTo(0, taking(procedure, SIXTEEN)), 0);
        }
        Line line = new Line();
        line.set(0, 1, SIXTEEN, 1);
        line.set(0, 2, SIXTEEN.substring(0, 15) + "g", 2);
        line.set(0, 3, SIXTEEN.substring(0, 15), 3);
        check.same("all 16 count", line.x.count(1), 3);
        check.same("16", line.value(SIXTEEN), 1);
        check.same("15", line.value(SIXTEEN.substring(0, 15)), 3);
    }

    private static void keyAbove16() {
        for (int procedure : new int[] {1, 2, 3, 4, 6}) {
            for (int n : new int[] {17, 18, 20, 400}) {
                Line line = new Line();
                line.set(0, 9, "aaaaaaaaaaaaaaaa", 1);
                check.same(n + " bytes to " + procedure, line.saidTo(0, taking(procedure, "a".repeat(n))), 4);
                check.same("keys", line.x.count(1), 1);
                check.same("value", line.value("aaaaaaaaaaaaaaaa"), 1);
            }
        }
    }

    private static void calls512() {
        RecordCalls x = new RecordCalls();
        int replies = 0;
        for (int i = 0; i < 126; i++) {
            x.feed(0x01020304, 0, 0, 0, 0);
            x.end(3);
            int call = x.call(i, 1, i == 0 ? 1 : 3, true, 1);
            replies += x.push(i % 4, call, 0, 60);
        }
        check.same("replies", replies, 126);
        x.feed(0x01020304, 0, 0, 0, 0);
        x.end(3);
        check.same("call 507", x.has(), true);
        check.same("call 508", x.value(), 126);
        check.same("call 509", x.count(2), 126);
        check.same("call 510", x.raw(), 252);
        check.same("call 511", x.length(252), 3);
        check.same("call 512", x.length(189), 40);
    }

    private static void fragmentWord() {
        for (int n : new int[] {0, 1, 3, 4, 255, 256, 257, 1200}) {
            Line line = new Line();
            line.push(0, new Message().words(n).zeros(Math.max(0, n - 1)).bytes());
            check.same("before the last of " + n, line.x.count(5), Math.max(0, n - 1));
            int replies = line.push(0, new Message().zeros(Math.min(1, n)).words(LAST).bytes());
            check.same("a record of " + n, replies + line.x.count(4), 1);
            check.same("whole with " + n, line.x.count(5), 0);
        }
    }

    private static void lastFragment() {
        byte[] call = Message.call(1, 1, 0).bytes();
        Line line = new Line();
        check.same("not the last", line.push(0, new Message().words(call.length).plain(call).bytes()), 0);
        check.same("it waits", line.x.count(5), call.length);
        check.same("the last", line.push(0, new Message().words(LAST).bytes()), 1);
        check.same("none waits", line.x.count(5), 0);
        line.tape(call);
        int cut = line.x.record(39);
        check.same("first word", line.x.word(cut, 0), 39);
        check.same("last word", line.x.word(cut, 43), LAST | 1);
    }

    private static void emptyFragments() {
        Message thirdWord = new Message().words(5, 0, 9);
        int[][] cuts = {{0, 12}, {12, 0}, {0, 0, 0, 12}, {4, 0, 8}, {4, 0, 0, 8, 0}, {0, 1, 0, 10, 0, 1, 0}};
        for (int[] cut : cuts) {
            Message all = new Message();
            int at = 0;
            for (int i = 0; i < cut.length; i++) {
                all.words(i == cut.length - 1 ? LAST | cut[i] : cut[i])
                        .plain(java.util.Arrays.copyOfRange(thirdWord.bytes(), at, at + cut[i]));
                at += cut[i];
            }
            Line line = new Line();
            check.same("cut " + java.util.Arrays.toString(cut), line.push(0, all.bytes()), 1);
            check.same("its reply", line.latest(), Message.refused(5, 0, 2, 2).fragment());
            check.same("none waits", line.x.count(5), 0);
        }
        Line line = new Line();
        check.same("an empty record has no reply", line.push(0, new Message().words(LAST).bytes()), 0);
        check.same("but is one", line.x.count(4), 1);
        check.same("empty ones, none the last", line.push(0, new byte[400]), 0);
        check.same("are none", line.x.count(4), 1);
        check.same("and none waits", line.x.count(5), 0);
    }

    private static void numberIsAny() {
        Line line = new Line();
        for (int i = 0; i < ENDS.length; i++) {
            check.same("number " + ENDS[i], line.send(0, Message.call(ENDS[i], 1, 0)),
                    Message.accepted(ENDS[i], 0).bytes());
        }
        check.same("all done", line.x.count(2), ENDS.length);
        for (int n : ENDS) {
            check.same("repeated " + n, line.send(0, new Message().words(n, 0)), Message.accepted(n, 0).bytes());
            check.same("says to " + n, line.x.says(line.x.count(0) - 1, n), 0);
            check.same("says to " + ~n, line.x.says(line.x.count(0) - 1, ~n), -2);
        }
        check.same("all repeated", line.x.count(3), ENDS.length);
        check.same("0 is not known before", new Line().saidTo(0, new Message().words(0, 0)), -1);
    }

    private static void programIs400100() {
        for (int program : new int[] {400099, 400101, 0, -1, -400100, 400100 ^ 1 << 31, 400100 - 65536}) {
            Line line = new Line();
            check.same("program " + program, line.saidTo(0, new Message().words(1, 0, 2, program, 1, 0, 0, 0, 0, 0)), 1);
            check.same("nothing is done", line.x.count(2), 0);
        }
        check.same("400100", new Line().saidTo(0, new Message().words(1, 0, 2, 400100, 1, 0, 0, 0, 0, 0)), 0);
    }

    private static void callerUpTo400() {
        for (int n : new int[] {0, 1, 2, 3, 4, 397, 399, 400, 401, 402, 404, 800}) {
            check.same(n + " bytes", new Line().saidTo(0, new Message().words(1, 0, 2, Message.PROGRAM, 1, 0, 1)
                    .key(new byte[n]).words(0, 0)), n <= 400 ? 0 : -1);
        }
    }

    private static void proofUpTo400() {
        for (int n : new int[] {0, 1, 2, 3, 4, 397, 399, 400, 401, 402, 404, 800}) {
            check.same(n + " bytes", new Line().saidTo(0, new Message().words(1, 0, 2, Message.PROGRAM, 1, 0, 0, 0, 0)
                    .key(new byte[n])), n == 0 ? 0 : n <= 400 ? 13 : -1);
        }
        check.same("both of 400", new Line().saidTo(0, new Message().words(1, 0, 2, Message.PROGRAM, 1, 0, 1)
                .key(new byte[400]).words(0).key(new byte[400])), 13);
    }

    private static void replies() {
        Line line = new Line();
        int n = -3;
        check.same("code 0", line.send(0, Message.call(n, 1, 0)), new Message().words(n, 1, 0, 0, 0, 0).bytes());
        n++;
        check.same("code 1", line.send(0, new Message().words(n, 0, 2, 1, 1, 0, 0, 0, 0, 0)),
                new Message().words(n, 1, 0, 0, 0, 1).bytes());
        n++;
        check.same("code 2", line.send(0, Message.call(n, 3, 0)), new Message().words(n, 1, 0, 0, 0, 2, 1, 2).bytes());
        n++;
        check.same("code 3", line.send(0, Message.call(n, 2, 7)), new Message().words(n, 1, 0, 0, 0, 3).bytes());
        n++;
        check.same("code 4", line.send(0, Message.call(n, 2, 1)), new Message().words(n, 1, 0, 0, 0, 4).bytes());
        n++;
        check.same("0, 2, 2", line.send(0, new Message().words(n, 0, 1)), new Message().words(n, 1, 1, 0, 2, 2).bytes());
        n++;
        check.same("1, 1", line.send(0, new Message().words(n, 0, 2, 0, 0, 0, 2, 0, 0, 0)),
                new Message().words(n, 1, 1, 1, 1).bytes());
        n++;
        check.same("1, 3", line.send(0, new Message().words(n, 0, 2, 0, 0, 0, 0, 0, 1, 0)),
                new Message().words(n, 1, 1, 1, 3).bytes());
    }
}
