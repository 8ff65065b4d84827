/** Promise 12: what a slot says. */
public final class SaysTest {
    private static final Check check = new Check("SaysTest");
    private static final int NUMBER = -77;

    public static void main(String[] args) {
        replies();
        wrongWords();
        wrongRecords();
        cutRecords();
        repliesOfTheServer();
        check.finish();
    }

    private static Message accepted(int... rest) {
        return new Message().words(NUMBER, 1, 0, 0, 0).words(rest);
    }

    private static Message refused(int... rest) {
        return new Message().words(NUMBER, 1, 1).words(rest);
    }

    private static void says(String what, byte[] slot, int due) {
        Line line = new Line();
        int at = line.slot(slot);
        check.same(what, line.x.says(at, NUMBER), due);
        check.same(what + " to another", line.x.says(at, NUMBER + 1), due == -1 ? -1 : -2);
        check.same("it stays", line.bytes(at), slot);
    }

    private static void replies() {
        says("code 0", accepted(0).fragment(), 0);
        says("code 0 and a word", accepted(0, 9).fragment(), 0);
        says("code 0 and a byte", accepted(0).zeros(1).fragment(), 0);
        says("code 0 and 1572 bytes", accepted(0).zeros(1572).fragment(), 0);
        says("code 1", accepted(1).fragment(), 1);
        says("code 2", accepted(2, 1, 2).fragment(), 2);
        says("code 3", accepted(3).fragment(), 3);
        says("code 4", accepted(4).fragment(), 4);
        says("third word", refused(0, 2, 2).fragment(), 5);
        says("who calls", refused(1, 1).fragment(), 11);
        says("proof", refused(1, 3).fragment(), 13);
    }

    private static void wrongWords() {
        says("code 5", accepted(5).fragment(), -1);
        says("code -1", accepted(-1).fragment(), -1);
        for (int code : new int[] {1, 3, 4}) {
            says("more behind code " + code, accepted(code, 0).fragment(), -1);
            says("a byte behind code " + code, accepted(code).zeros(1).fragment(), -1);
        }
        says("code 2 alone", accepted(2).fragment(), -1);
        says("code 2 and a word", accepted(2, 1).fragment(), -1);
        says("code 2, others", accepted(2, 1, 3).fragment(), -1);
        says("code 2, others too", accepted(2, 2, 2).fragment(), -1);
        says("code 2 and three", accepted(2, 1, 2, 0).fragment(), -1);
        says("code 2 and a byte", accepted(2, 1, 2).zeros(1).fragment(), -1);
        says("a proof's word", new Message().words(NUMBER, 1, 0, 1, 0, 0).fragment(), -1);
        says("a proof", new Message().words(NUMBER, 1, 0, 0, 4, 0, 0).fragment(), -1);
        says("refused 2", refused(2, 1).fragment(), -1);
        says("refused 1 2", refused(1, 2).fragment(), -1);
        says("refused 1 0", refused(1, 0).fragment(), -1);
        says("refused 1 5", refused(1, 5).fragment(), -1);
        says("refused 1 1 more", refused(1, 1, 0).fragment(), -1);
        says("refused 1 1 a byte", refused(1, 1).zeros(1).fragment(), -1);
        says("refused 0 2 3", refused(0, 2, 3).fragment(), -1);
        says("refused 0 1 2", refused(0, 1, 2).fragment(), -1);
        says("refused 0 2", refused(0, 2).fragment(), -1);
        says("refused 0 1", refused(0, 1).fragment(), -1);
        says("refused 0 2 2 more", refused(0, 2, 2, 2).fragment(), -1);
        says("refused 1 2 2", refused(1, 2, 2).fragment(), -1);
        says("third word 2", new Message().words(NUMBER, 1, 2, 0, 0, 0).fragment(), -1);
        says("third word -1", new Message().words(NUMBER, 1, -1, 0, 0, 0).fragment(), -1);
        says("a call", new Message().words(NUMBER, 0, 0, 0, 0, 0).fragment(), -1);
        says("second word 2", new Message().words(NUMBER, 2, 0, 0, 0, 0).fragment(), -1);
        byte[] whole = accepted(0).bytes();
        for (int n = 0; n < whole.length; n++) {
            says("just " + n, new Message().plain(java.util.Arrays.copyOf(whole, n)).fragment(), -1);
        }
        byte[] proof = refused(1, 3).bytes();
        for (int n = 0; n < proof.length; n++) {
            says("refused just " + n, new Message().plain(java.util.Arrays.copyOf(proof, n)).fragment(), -1);
        }
    }

    private static void wrongRecords() {
        byte[] reply = accepted(0).bytes();
        says("nothing", new byte[0], -1);
        says("three bytes", new byte[3], -1);
        says("an empty record", new Message().words(1 << 31).bytes(), -1);
        says("no last fragment", new Message().words(24).plain(reply).bytes(), -1);
        says("a byte too few", new Message().words(1 << 31 | 25).plain(reply).bytes(), -1);
        says("very many too few", new Message().words(-1).plain(reply).bytes(), -1);
        says("a byte behind", new Message().plain(accepted(0).fragment()).zeros(1).bytes(), -1);
        says("another record behind", new Message().plain(accepted(0).fragment()).words(1 << 31).bytes(), -1);
        says("no fragment's word", reply, -1);
        says("a byte of the next word", new Message().words(24).plain(reply).plain((byte) 128).bytes(), -1);
        says("a fragment too long", new Message().words(Integer.MAX_VALUE).plain(reply).bytes(), -1);
    }

    private static void cutRecords() {
        for (int cut = 1; cut <= 32; cut++) {
            Line line = new Line();
            line.tape(accepted(2, 1, 2).bytes());
            int slot = line.x.record(cut);
            check.same("cut " + cut, line.x.says(slot, NUMBER), 2);
            check.same("cut " + cut + " to another", line.x.says(slot, 0), -2);
        }
        says("empty ones between", new Message().words(0, 12, NUMBER, 1, 1, 0, 8, 1, 3, 1 << 31).bytes(), 13);
    }

    private static void repliesOfTheServer() {
        Line line = new Line();
        Message[] records = {Message.call(1, 1, 0), new Message().words(2, 0, 2, 1, 1, 0, 0, 0, 0, 0),
            Message.call(3, 9, 0), Message.call(4, 1, 5), Message.call(5, 1, 1), new Message().words(6, 0, 1),
            new Message().words(7, 0, 2, 0, 0, 0, 5, 0, 0, 0), new Message().words(8, 0, 2, 0, 0, 0, 0, 0, 3, 0)};
        int[] due = {0, 1, 2, 3, 4, 5, 11, 13};
        for (int i = 0; i < records.length; i++) {
            line.send(0, records[i]);
            int slot = line.x.count(0) - 1;
            check.same("reply " + i, line.x.says(slot, i + 1), due[i]);
            check.same("reply to another " + i, line.x.says(slot, i), -2);
            check.same("the call " + i, line.x.says(slot - 1, i + 1), -1);
        }
    }
}
