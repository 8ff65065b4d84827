import java.io.ByteArrayOutputStream;

/** Bytes of messages, written one thing behind another. */
final class Message {
    static final int PROGRAM = 400100;

    private final ByteArrayOutputStream out = new ByteArrayOutputStream();

    /** A call from nobody without a proof, up to what the procedure takes. */
    static Message call(int number, int version, int procedure) {
        return new Message().words(number, 0, 2, PROGRAM, version, procedure, 0, 0, 0, 0);
    }

    /** A reply with a code, up to what belongs to it. */
    static Message accepted(int number, int code) {
        return new Message().words(number, 1, 0, 0, 0, code);
    }

    static Message refused(int number, int... rest) {
        return new Message().words(number, 1, 1).words(rest);
    }

    Message words(int... words) {
        for (int w : words) {
            out.write(w >>> 24);
            out.write(w >>> 16);
            out.write(w >>> 8);
            out.write(w);
        }
        return this;
    }

    Message longOne(long number) {
        return words((int) (number >> 32), (int) number);
    }

    Message plain(byte... bytes) {
        out.write(bytes, 0, bytes.length);
        return this;
    }

    Message zeros(int n) {
        return plain(new byte[n]);
    }

    /** Bytes with their length before and what fills them behind. */
    Message key(byte... bytes) {
        return words(bytes.length).plain(bytes).zeros((4 - bytes.length % 4) % 4);
    }

    Message key(String text) {
        return key(text.getBytes(java.nio.charset.StandardCharsets.ISO_8859_1));
    }

    byte[] bytes() {
        return out.toByteArray();
    }

    /** 0 when it is not all there. */
    int firstWord() {
        return out.size() < 4 ? 0 : java.nio.ByteBuffer.wrap(bytes()).getInt();
    }

    /** As one record of one fragment. */
    byte[] fragment() {
        byte[] all = bytes();
        return new Message().words(1 << 31 | all.length).plain(all).bytes();
    }
}
