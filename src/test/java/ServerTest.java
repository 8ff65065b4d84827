/** Promise 7 with what the server looks at, in its order, and the replies it knows. */
public final class ServerTest {
    private static final Check check = new Check("ServerTest");
    private static final int PROGRAM = Message.PROGRAM;

    public static void main(String[] args) {
        badRecords();
        thirdWord();
        whoCalls();
        filling();
        proof();
        programVersionProcedure();
        wrongTaken();
        repeated();
        latestEight();
        repliesOutlastABreak();
        check.finish();
    }

    private static byte[] accepted(int number, int... rest) {
        return new Message().words(number, 1, 0, 0, 0).words(rest).bytes();
    }

    private static byte[] refused(int number, int... rest) {
        return new Message().words(number, 1, 1).words(rest).bytes();
    }

    private static void isBad(String what, Message record) {
        Line line = new Line();
        check.same(what, line.push(0, record.fragment()), 0);
        check.same(what + " is bad", line.x.count(4), 1);
        check.same(what + " makes no slot", line.x.count(0), 1);
    }

    private static void isReplied(String what, Message record, byte[] due) {
        Line line = new Line();
        check.same(what, line.send(3, record), due);
        check.same(what + " is not bad", line.x.count(4), 0);
        check.same(what + " is done", line.x.count(2), due.length >= 24 && due[11] == 0 && due[23] == 0 ? 1 : 0);
    }

    private static void badRecords() {
        isBad("nothing", new Message());
        isBad("a word", new Message().words(1));
        isBad("seven bytes", new Message().words(1).zeros(3));
        isBad("a reply", new Message().words(1, 1, 2, PROGRAM, 1, 0, 0, 0, 0, 0));
        isBad("second word -1", new Message().words(1, -1, 2, PROGRAM, 1, 0, 0, 0, 0, 0));
        isBad("two words", new Message().words(1, 0));
        isBad("eleven bytes", new Message().words(1, 0).zeros(3));
        isBad("three words", new Message().words(1, 0, 2));
        isBad("five words", new Message().words(1, 0, 2, PROGRAM, 1));
        isBad("six words", new Message().words(1, 0, 2, PROGRAM, 1, 0));
        isBad("no length of who calls", new Message().words(1, 0, 2, PROGRAM, 1, 0, 0));
        isBad("no proof", new Message().words(1, 0, 2, PROGRAM, 1, 0, 0, 0));
        isBad("no length of the proof", new Message().words(1, 0, 2, PROGRAM, 1, 0, 0, 0, 0).zeros(3));
    }

    private static void thirdWord() {
        isReplied("third word 3", new Message().words(9, 0, 3), refused(9, 0, 2, 2));
        isReplied("third word 0", new Message().words(9, 0, 0).zeros(5), refused(9, 0, 2, 2));
        isReplied("third word -2, and a whole call", new Message().words(-9, 0, -2, PROGRAM, 1, 0, 0, 0, 0, 0),
                refused(-9, 0, 2, 2));
    }

    private static Message called(int f) {
        return new Message().words(5, 0, 2, PROGRAM, 1, 0, f);
    }

    private static void whoCalls() {
        isReplied("F 1", called(1).key("").words(0, 0), accepted(5, 0));
        isReplied("F 1 with 400", called(1).key(new byte[400]).words(0, 0), accepted(5, 0));
        isReplied("F 1 with five", called(1).key("abcde").words(0, 0), accepted(5, 0));
        isReplied("F 2", called(2).key("").words(0, 0), refused(5, 1, 1));
        isReplied("F -1", called(-1).key("").words(0, 0), refused(5, 1, 1));
        isReplied("F 0 with bytes", called(0).key("a").words(0, 0), refused(5, 1, 1));
        isReplied("F 2 before the proof", called(2).key("").words(1, 0), refused(5, 1, 1));
        isReplied("F 2 before the program", new Message().words(5, 0, 2, 1, 9, 9, 2, 0, 0, 0), refused(5, 1, 1));
        isBad("401 bytes", called(1).key(new byte[401]).words(0, 0));
        isBad("-1 bytes", called(1).words(-1, 0, 0));
        isBad("lowest bytes", called(1).words(Integer.MIN_VALUE, 0, 0));
        isBad("not all there", called(1).words(400).zeros(396));
        isBad("too long before F", called(7).key(new byte[404]).words(0, 0));
    }

    private static void filling() {
        isBad("filled with 1 at the end", called(1).words(5).zeros(7).plain((byte) 1).words(0, 0));
        isBad("filled with 1 at once", called(1).words(5).zeros(5).plain((byte) 1).zeros(2).words(0, 0));
        isBad("filled with 1 before F", called(9).words(3).zeros(3).plain((byte) 1).words(0, 0));
        isBad("proof filled with 1", called(1).key("").words(0, 2).zeros(3).plain((byte) 1));
        isBad("proof filled with 1 before F", called(9).key("").words(0, 2).zeros(3).plain((byte) 1));
    }

    private static void proof() {
        isReplied("proof's word 1", called(0).key("").words(1, 0), refused(5, 1, 3));
        isReplied("proof's word -1", called(1).key("").words(-1, 0), refused(5, 1, 3));
        isReplied("proof has bytes", called(0).key("").words(0).key("a"), refused(5, 1, 3));
        isReplied("proof has 400", called(0).key("").words(0).key(new byte[400]), refused(5, 1, 3));
        isReplied("proof before the program", new Message().words(5, 0, 2, 1, 9, 9, 0, 0, 1, 0), refused(5, 1, 3));
        isBad("proof of 401", called(0).key("").words(0).key(new byte[401]));
        isBad("proof of -4", called(0).key("").words(0, -4));
        isBad("proof not all there", called(0).key("").words(0, 4).zeros(3));
    }

    private static void programVersionProcedure() {
        isReplied("another program", new Message().words(5, 0, 2, 400101, 9, 9, 0, 0, 0, 0), accepted(5, 1));
        isReplied("version 0", Message.call(5, 0, 9), accepted(5, 2, 1, 2));
        isReplied("version 3", Message.call(5, 3, 0), accepted(5, 2, 1, 2));
        isReplied("version -1", Message.call(5, -1, 0).zeros(1), accepted(5, 2, 1, 2));
        isReplied("1: procedure 5", Message.call(5, 1, 5).words(0, 9), accepted(5, 3));
        isReplied("1: procedure 6", Message.call(5, 1, 6).key("a"), accepted(5, 3));
        isReplied("2: procedure 7", Message.call(5, 2, 7).zeros(2), accepted(5, 3));
        isReplied("2: procedure -1", Message.call(5, 2, -1), accepted(5, 3));
        isReplied("1: procedure 0", Message.call(5, 1, 0), accepted(5, 0));
        isReplied("2: procedure 0", Message.call(5, 2, 0), accepted(5, 0));
    }

    private static void wrongTaken() {
        for (int version = 1; version <= 2; version++) {
            isReplied("0 with a byte", Message.call(5, version, 0).zeros(1), accepted(5, 4));
            isReplied("0 with a word", Message.call(5, version, 0).zeros(4), accepted(5, 4));
            isReplied("1 with nothing", Message.call(5, version, 1), accepted(5, 4));
            isReplied("1 without a long one", Message.call(5, version, 1).key("a"), accepted(5, 4));
            isReplied("1 with a word", Message.call(5, version, 1).key("a").zeros(4), accepted(5, 4));
            isReplied("1 with too much", Message.call(5, version, 1).key("a").zeros(9), accepted(5, 4));
            isReplied("1 with 17", Message.call(5, version, 1).key(new byte[17]).zeros(8), accepted(5, 4));
            isReplied("1 with -1", Message.call(5, version, 1).words(-1, 0, 0), accepted(5, 4));
            isReplied("2 not filled", Message.call(5, version, 2).words(1, 0x61000001), accepted(5, 4));
            isReplied("2 with a long one", Message.call(5, version, 2).key("a").zeros(8), accepted(5, 4));
            isReplied("2 cut off", Message.call(5, version, 2).words(1).zeros(3), accepted(5, 4));
            isReplied("3 with 7 bytes", Message.call(5, version, 3).key("a").zeros(7), accepted(5, 4));
            isReplied("4 with nothing", Message.call(5, version, 4), accepted(5, 4));
            isReplied("4 with nine", Message.call(5, version, 4).words(9).zeros(36), accepted(5, 4));
            isReplied("4 with -1", Message.call(5, version, 4).words(-1), accepted(5, 4));
            isReplied("4 with one too few", Message.call(5, version, 4).words(2).key("a"), accepted(5, 4));
            isReplied("4 with one too many", Message.call(5, version, 4).words(1).key("a").key("b"), accepted(5, 4));
        }
        isReplied("5 with a word", Message.call(5, 2, 5).words(0), accepted(5, 4));
        isReplied("5 with three", Message.call(5, 2, 5).words(0, 0, 0), accepted(5, 4));
        isReplied("6 with nothing", Message.call(5, 2, 6), accepted(5, 4));
        isReplied("6 with 20", Message.call(5, 2, 6).key(new byte[20]), accepted(5, 4));
        Line line = new Line();
        line.send(0, Message.call(1, 1, 1).key("a").longOne(1).zeros(1));
        check.same("nothing is done", line.has("a"), false);
    }

    private static void repeated() {
        Line line = new Line();
        byte[] first = line.send(0, Message.call(7, 1, 1).key("k").longOne(5));
        check.same("first", first, accepted(7, 0, 0, 0));
        check.same("again", line.send(0, Message.call(7, 1, 1).key("k").longOne(6)), first);
        check.same("done once", line.value("k"), 5);
        check.same("whatever it says", line.send(0, new Message().words(7, 0)), first);
        check.same("whatever it says more", line.send(0, new Message().words(7, 0, 9, 9)), first);
        check.same("not a call", line.send(0, new Message().words(7, 1)), null);
        check.same("less than two words", line.send(0, new Message().words(7).zeros(3)), null);
        check.same("repeated", line.x.count(3), 3);
        check.same("done", line.x.count(2), 1);
        check.same("bad", line.x.count(4), 2);
        check.same("another connection", line.send(1, Message.call(7, 1, 1).key("k").longOne(6)),
                accepted(7, 0, 0, 1, 0, 5));
        check.same("another number", line.send(0, Message.call(8, 1, 2).key("k")), accepted(8, 0, 0, 0, 6));
        check.same("the old reply still", line.send(0, Message.call(7, 1, 2).key("k")), first);
        byte[] refused = line.send(2, new Message().words(1, 0, 3));
        check.same("refused again", line.send(2, Message.call(1, 1, 0)), refused);
        check.same("bad ones are not known", line.send(2, new Message().words(2, 0)), null);
        check.same("so the next is looked at", line.send(2, Message.call(2, 1, 0)), accepted(2, 0));
    }

    private static void latestEight() {
        Line line = new Line();
        for (int i = 0; i < 8; i++) {
            line.send(0, Message.call(i, 1, 0));
        }
        line.send(0, Message.call(0, 1, 0));
        check.same("eight are known", line.x.count(3), 1);
        line.send(0, Message.call(8, 1, 0));
        line.send(0, Message.call(1, 1, 0));
        check.same("the second is", line.x.count(3), 2);
        check.same("a repeated one stays as old", line.send(0, new Message().words(0, 0)), null);
        line.send(0, Message.call(0, 1, 0));
        check.same("done anew", line.x.count(2), 10);
        check.same("then the second is not", line.send(0, new Message().words(1, 0)), null);
        for (int i = 2; i <= 8; i++) {
            check.same("known " + i, line.send(0, new Message().words(i, 0)), accepted(i, 0));
        }
        check.same("known 0", line.send(0, new Message().words(0, 0)), accepted(0, 0));
    }

    private static void repliesOutlastABreak() {
        Line line = new Line();
        line.send(0, Message.call(1, 1, 1).key("a").longOne(1));
        for (int i = 0; i < 70; i++) {
            line.x.raw();
        }
        line.push(0, new Message().words(5000).bytes());
        check.same("broken", line.x.open(0), true);
        check.same("known", line.send(0, Message.call(1, 1, 1).key("a").longOne(2)), accepted(1, 0, 0, 0));
        line.x.open(0);
        check.same("known still", line.send(0, new Message().words(1, 0)), accepted(1, 0, 0, 0));
    }
}
