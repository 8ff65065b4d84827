/** The boundary cases that the document names of what the server looks at, sentence by sentence. */
public final class EdgesOfServerTest {
    private static final Check check = new Check("EdgesOfServerTest");
    private static final int PROGRAM = Message.PROGRAM;
    private static final int NO_REPLY = -1;
    private static final int[] WRONG_WORDS = {1, 3, -1, 0x80000000, 0x7fffffff, 0x100, 0x10000, 0x1000000};

    public static void main(String[] args) {
        check.sentence("Less than two words", EdgesOfServerTest::lessThanTwoWords);
        check.sentence("or the second one not 0: it is BAD, there is no reply", EdgesOfServerTest::secondWord);
        check.sentence("If it has a reply for this connection and NUMBER", EdgesOfServerTest::repeatedOfThisConnection);
        check.sentence("among its latest eight of the connection", EdgesOfServerTest::repeatedOfTheLatestEight);
        check.sentence("REPEATED; it counts as old as it was", EdgesOfServerTest::repeatedOnesStayAsOld);
        check.sentence("that one is sent again (REPEATED), whatever else the record says",
                EdgesOfServerTest::repeatedWhateverItSays);
        check.sentence("It ends before the third word: BAD", EdgesOfServerTest::endsBeforeTheThirdWord);
        check.sentence("That is not 2: refused, 0, 2, 2", EdgesOfServerTest::thirdWord);
        check.sentence("Who calls, or the proof, are not all there", EdgesOfServerTest::notAllThere);
        check.sentence("are too long", EdgesOfServerTest::tooLong);
        check.sentence("or not filled with 0s: BAD", EdgesOfServerTest::notFilled);
        check.sentence("(also when there are no six words)", EdgesOfServerTest::noSixWords);
        check.sentence("F is neither 0 nor 1, or it is 0 and has bytes: refused, 1, 1", EdgesOfServerTest::whoCalls);
        check.sentence("The proof's word is not 0, or it has bytes: refused, 1, 3", EdgesOfServerTest::proof);
        check.sentence("Another program: code 1", EdgesOfServerTest::anotherProgram);
        check.sentence("A version that is not 1 or 2: code 2, and words 1, 2", EdgesOfServerTest::version);
        check.sentence("No such procedure in that version: code 3", EdgesOfServerTest::procedure);
        check.sentence("What it takes is not there as it must be", EdgesOfServerTest::notThereAsItMustBe);
        check.sentence("or bytes are left: code 4", EdgesOfServerTest::bytesAreLeft);
        check.sentence("code 4. Else code 0, and what it gives", EdgesOfServerTest::codeFourDoesNothing);
        check.sentence("THE SERVER looks at a record in this order", EdgesOfServerTest::inThisOrder);
        check.sentence("each call is done once at most, and a repeated one gets the same reply again",
                EdgesOfServerTest::onceAtMost);
        check.finish();
    }

    private static Message front(byte[] record, int n) {
        return new Message().plain(java.util.Arrays.copyOf(record, n));
    }

    private static void isBad(String what, Message record) {
        Line line = new Line();
        check.same(what, line.push(1, record.fragment()), 0);
        check.same(what + " counts as bad", line.x.count(4), 1);
        check.same(what + " makes no slot", line.x.count(0), 1);
        check.same(what + " is not done", line.x.count(2) + line.x.count(3), 0);
    }

    private static void says(String what, Message record, int due) {
        Line line = new Line();
        check.same(what, line.saidTo(1, record), due);
        check.same(what + " counts as bad", line.x.count(4), due == NO_REPLY ? 1 : 0);
        check.same(what + " counts as done", line.x.count(2), due == 0 ? 1 : 0);
    }

    private static void lessThanTwoWords() {
        for (int n = 0; n < 8; n++) {
            isBad(n + " bytes", new Message().zeros(n));
            Line line = new Line();
            line.send(0, Message.call(0, 1, 0));
            check.same(n + " bytes, number 0 known", line.saidTo(0, new Message().zeros(n)), NO_REPLY);
            check.same("not repeated", line.x.count(3), 0);
            check.same("bad", line.x.count(4), 1);
        }
    }

    private static void secondWord() {
        for (int word : WRONG_WORDS) {
            isBad("second word " + word, new Message().words(1, word, 2, PROGRAM, 1, 0, 0, 0, 0, 0));
            isBad("second word " + word + " at last", new Message().words(1, word));
        }
        says("second word 0", Message.call(1, 1, 0), 0);
    }

    private static void repeatedOfThisConnection() {
        Line line = new Line();
        for (int c = 0; c < 4; c++) {
            line.set(c, 7, "k", c);
            check.same("done for each", line.x.count(2), c + 1);
        }
        for (int c = 0; c < 4; c++) {
            Message due = Message.accepted(7, 0).words(0, c == 0 ? 0 : 1);
            check.same("its own reply " + c, line.send(c, new Message().words(7, 0)),
                    (c == 0 ? due : due.longOne(c - 1)).bytes());
        }
        check.same("repeated", line.x.count(3), 4);
        check.same("another number", line.saidTo(0, new Message().words(8, 0)), NO_REPLY);
    }

    private static void repeatedOfTheLatestEight() {
        for (int others = 0; others <= 9; others++) {
            Line line = new Line();
            line.set(2, 100, "k", 1);
            for (int i = 0; i < others; i++) {
                line.push(2, Message.call(i, 1, 0).fragment());
            }
            for (int i = 0; i < 12; i++) {
                line.push(3, Message.call(i, 1, 0).fragment());
                line.push(2, new Message().words(50 + i, 0).fragment());
            }
            check.same("known with " + others + " behind", line.saidTo(2, new Message().words(100, 0)),
                    others <= 7 ? 0 : NO_REPLY);
            line.set(2, 100, "k", 2);
            check.same("done with " + others + " behind", line.value("k"), others <= 7 ? 1 : 2);
        }
    }

    private static void repeatedOnesStayAsOld() {
        Line line = new Line();
        for (int i = 1; i <= 8; i++) {
            line.push(0, Message.call(i, 1, 0).fragment());
            line.push(0, new Message().words(1, 0).fragment());
        }
        check.same("repeated", line.x.count(3), 8);
        line.push(0, Message.call(9, 1, 0).fragment());
        check.same("the first is not known", line.saidTo(0, new Message().words(1, 0)), NO_REPLY);
        for (int i = 2; i <= 9; i++) {
            check.same("known is " + i, line.saidTo(0, new Message().words(i, 0)), 0);
        }
    }

    private static void repeatedWhateverItSays() {
        Line line = new Line();
        byte[] reply = line.send(0, Message.call(7, 1, 1).key("k").longOne(5));
        Message[] others = {new Message().words(7, 0), new Message().words(7, 0).zeros(3), new Message().words(7, 0, 9),
            new Message().words(7, 0, 2, 1), new Message().words(7, 0, 2, PROGRAM, 1, 1, 9, 401),
            Message.call(7, 9, 9), Message.call(7, 2, 6).key("k"), Message.call(7, 1, 1).key("k").longOne(6),
            new Message().words(7, 0).zeros(1192)};
        for (int i = 0; i < others.length; i++) {
            check.same("the same again " + i, line.send(0, others[i]), reply);
            check.same("repeated " + i, line.x.count(3), i + 1);
        }
        check.same("done once", line.x.count(2), 1);
        check.same("none is bad", line.x.count(4), 0);
        check.same("the value stays", line.value("k"), 5);
        Message[] kinds = {new Message().words(1, 0, 9), new Message().words(1, 0, 2, PROGRAM, 1, 0, 9, 0, 0, 0),
            new Message().words(1, 0, 2, PROGRAM, 1, 0, 0, 0, 9, 0), new Message().words(1, 0, 2, 9, 1, 0, 0, 0, 0, 0),
            Message.call(1, 9, 0), Message.call(1, 1, 9), Message.call(1, 1, 1)};
        for (Message kind : kinds) {
            Line other = new Line();
            byte[] first = other.send(0, kind);
            check.same("a reply without code 0 too", other.send(0, Message.call(1, 1, 0)), first);
            check.same("is repeated", other.x.count(3), 1);
        }
    }

    private static void endsBeforeTheThirdWord() {
        for (int n = 8; n < 12; n++) {
            isBad(n + " bytes", new Message().words(1, 0).zeros(n - 8));
        }
        check.same("12 bytes have a reply", new Line().saidTo(0, new Message().words(1, 0, 0)), 5);
    }

    private static void thirdWord() {
        for (int word : WRONG_WORDS) {
            Line line = new Line();
            check.same("third word " + word, line.send(0, new Message().words(1, 0, word)),
                    Message.refused(1, 0, 2, 2).bytes());
            says("a whole call with " + word, new Message().words(1, 0, word, PROGRAM, 1, 0, 0, 0, 0, 0), 5);
            says("a byte behind " + word, new Message().words(1, 0, word).zeros(1), 5);
        }
        says("third word 0", new Message().words(1, 0, 0, PROGRAM, 1, 0, 0, 0, 0, 0), 5);
    }

    private static void notAllThere() {
        byte[] whole = new Message().words(1, 0, 2, PROGRAM, 1, 0, 1).key("abcde").words(0).key("fg").bytes();
        for (int n = 24; n < whole.length; n++) {
            isBad(n + " of " + whole.length + " bytes", front(whole, n));
        }
        says("all there", front(whole, whole.length), 13);
        byte[] nobody = Message.call(1, 1, 0).bytes();
        for (int n = 24; n < nobody.length; n++) {
            isBad(n + " of a call from nobody", front(nobody, n));
        }
        says("a call from nobody", front(nobody, nobody.length), 0);
    }

    private static void tooLong() {
        for (int n : new int[] {401, 402, 403, 404, 405, 600}) {
            isBad("who calls of " + n, new Message().words(1, 0, 2, PROGRAM, 1, 0, 1).key(new byte[n]).words(0, 0));
            isBad("F 5 of " + n, new Message().words(1, 0, 2, PROGRAM, 1, 0, 5).key(new byte[n]).words(0, 0));
            isBad("proof of " + n, new Message().words(1, 0, 2, PROGRAM, 1, 0, 0, 0, 0).key(new byte[n]));
            isBad("proof 5 of " + n, new Message().words(1, 0, 2, PROGRAM, 1, 0, 0, 0, 5).key(new byte[n]));
        }
    }

    private static void notFilled() {
        for (int n : new int[] {1, 2, 3, 5, 6, 7, 397, 398, 399}) {
            int fill = (4 - n % 4) % 4;
            for (int i = 0; i < fill; i++) {
                Message wrong = new Message().words(n).zeros(n + i).plain((byte) 1).zeros(fill - 1 - i);
                isBad("who calls of " + n + " at " + i, new Message().words(1, 0, 2, PROGRAM, 1, 0, 1)
                        .plain(wrong.bytes()).words(0, 0));
                isBad("proof of " + n + " at " + i, new Message().words(1, 0, 2, PROGRAM, 1, 0, 0, 0, 0)
                        .plain(wrong.bytes()));
            }
        }
    }

    private static void noSixWords() {
        for (int program : new int[] {PROGRAM, 5}) {
            byte[] six = new Message().words(1, 0, 2, program, 9, 9).bytes();
            for (int n = 12; n <= six.length; n++) {
                isBad(n + " bytes for " + program, front(six, n));
            }
        }
    }

    private static Message from(int f, int n) {
        return new Message().words(1, 0, 2, PROGRAM, 1, 0, f).key(new byte[n]).words(0, 0);
    }

    private static void whoCalls() {
        for (int f : new int[] {2, 3, -1, 0x80000000, 0x80000001, 0x7fffffff, 256}) {
            says("F " + f, from(f, 0), 11);
            says("F " + f + " with bytes", from(f, 4), 11);
        }
        for (int n : new int[] {1, 4, 400}) {
            says("F 0 with " + n, from(0, n), 11);
            says("F 1 with " + n, from(1, n), 0);
        }
        says("F 0", from(0, 0), 0);
        says("F 1", from(1, 0), 0);
        check.same("its words", new Line().send(0, from(2, 0)), Message.refused(1, 1, 1).bytes());
    }

    private static Message proved(int word, int n) {
        return new Message().words(1, 0, 2, PROGRAM, 1, 0, 1, 0, word).key(new byte[n]);
    }

    private static void proof() {
        for (int word : WRONG_WORDS) {
            says("proof's word " + word, proved(word, 0), 13);
            says("proof's word " + word + " with bytes", proved(word, 8), 13);
        }
        for (int n : new int[] {1, 4, 400}) {
            says("proof of " + n, proved(0, n), 13);
        }
        says("no proof", proved(0, 0), 0);
        check.same("its words", new Line().send(0, proved(1, 0)), Message.refused(1, 1, 3).bytes());
    }

    private static void anotherProgram() {
        check.same("its words", new Line().send(0, new Message().words(1, 0, 2, PROGRAM + 1, 1, 0, 0, 0, 0, 0)),
                Message.accepted(1, 1).bytes());
        says("with bytes left", new Message().words(1, 0, 2, PROGRAM - 1, 1, 0, 0, 0, 0, 0).zeros(3), 1);
    }

    private static void version() {
        for (int version : new int[] {0, 3, 4, -1, -2, 0x80000001, 0x80000002, 257, 0x7fffffff}) {
            check.same("version " + version, new Line().send(0, Message.call(1, version, 0)),
                    Message.accepted(1, 2).words(1, 2).bytes());
        }
        says("version 1", Message.call(1, 1, 0), 0);
        says("version 2", Message.call(1, 2, 0), 0);
    }

    private static void procedure() {
        for (int version = 1; version <= 2; version++) {
            for (int procedure : new int[] {7, 8, -1, 0x80000000, 0x80000001, 0x7fffffff, 256}) {
                check.same("procedure " + procedure, new Line().send(0, Message.call(1, version, procedure)),
                        Message.accepted(1, 3).bytes());
            }
            says("5 of " + version, Message.call(1, version, 5).words(0, 0), version == 1 ? 3 : 0);
            says("6 of " + version, Message.call(1, version, 6).key(""), version == 1 ? 3 : 0);
            says("4 of " + version, Message.call(1, version, 4).words(0), 0);
        }
    }

    /** Calls as they must be, one of each procedure that takes something. */
    private static Message[] takers(int version) {
        Message[] all = {Message.call(1, version, 1).key("ab").longOne(1), Message.call(1, version, 2).key("ab"),
            Message.call(1, version, 3).key("ab").longOne(1), Message.call(1, version, 4).words(2).key("ab").key(""),
            Message.call(1, version, 5).words(0, 8), Message.call(1, version, 6).key("ab")};
        return version == 1 ? java.util.Arrays.copyOf(all, 4) : all;
    }

    private static void notThereAsItMustBe() {
        for (int version = 1; version <= 2; version++) {
            for (Message taker : takers(version)) {
                byte[] whole = taker.bytes();
                for (int n = 40; n < whole.length; n++) {
                    says(n + " bytes of " + whole[23], front(whole, n), 4);
                }
                says("all of " + whole[23], taker, 0);
            }
        }
        says("4 of 9 keys", Message.call(1, 1, 4).words(9).zeros(36), 4);
        says("1 without filling", Message.call(1, 1, 1).words(1).plain((byte) 'a').zeros(8), 4);
    }

    private static void bytesAreLeft() {
        for (int version = 1; version <= 2; version++) {
            for (int left : new int[] {1, 2, 3, 4, 8}) {
                says("0 with " + left, Message.call(1, version, 0).zeros(left), 4);
                for (Message taker : takers(version)) {
                    says(left + " left", taker.zeros(left), 4);
                }
            }
        }
    }

    private static void codeFourDoesNothing() {
        Line line = new Line();
        line.set(0, 50, "ab", 5);
        int number = 1;
        for (Message taker : takers(2)) {
            byte[] bytes = taker.zeros(1).bytes();
            bytes[3] = (byte) number++;
            check.same("its words", line.send(0, front(bytes, bytes.length)), Message.accepted(number - 1, 4).bytes());
        }
        check.same("the value", line.value("ab"), 5);
        check.same("keys", line.x.count(1), 1);
        check.same("done", line.x.count(2), 1);
    }

    private static boolean has(int faults, int i) {
        return (faults >> i & 1) != 0;
    }

    /** A record with faults, the first to be seen the lowest bit. */
    private static Message faulty(int faults) {
        return new Message().words(has(faults, 1) ? 77 : 1, has(faults, 0) ? 1 : 0, has(faults, 2) ? 3 : 2,
                has(faults, 6) ? 5 : PROGRAM, has(faults, 7) ? 3 : 1, has(faults, 8) ? 7 : 0, has(faults, 4) ? 2 : 0,
                0, has(faults, 5) ? 1 : 0).key(has(faults, 3) ? new byte[401] : new byte[0])
                .zeros(has(faults, 9) ? 1 : 0);
    }

    private static void inThisOrder() {
        int[] due = {NO_REPLY, 4, 5, NO_REPLY, 11, 13, 1, 2, 3, 4, 0};
        for (int faults = 0; faults < 1 << 10; faults++) {
            Line line = new Line();
            // The number 77 is known with a reply that says 4.
            line.push(0, Message.call(77, 1, 1).fragment());
            int first = Integer.numberOfTrailingZeros(faults | 1 << 10);
            check.same("faults " + Integer.toBinaryString(faults), line.saidTo(0, faulty(faults)), due[first]);
            check.same("repeated", line.x.count(3), first == 1 ? 1 : 0);
            check.same("bad", line.x.count(4), due[first] == NO_REPLY ? 1 : 0);
            check.same("done", line.x.count(2), faults == 0 ? 1 : 0);
        }
    }

    private static void onceAtMost() {
        Line line = new Line();
        line.set(0, 1, "k", 100);
        byte[] more = Message.call(2, 1, 3).key("k").longOne(1).fragment();
        check.same("six at once", line.push(0, new Message().plain(more).plain(more).plain(more)
                .plain(more).plain(more).plain(more).bytes()), 6);
        int last = line.x.count(0) - 1;
        for (int i = 0; i < 6; i++) {
            check.same("reply " + i, line.bytes(last - i),
                    Message.accepted(2, 0).words(0).longOne(101).fragment());
        }
        check.same("done once", line.value("k"), 101);
        check.same("repeated", line.x.count(3), 5);
    }
}
