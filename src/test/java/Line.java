/** An object and what tests do with it again and again. */
final class Line {
    final RecordCalls x = new RecordCalls();

    /** The tape has these bytes and no others. */
    void tape(byte... bytes) {
        x.end(0);
        for (int i = 0; i < bytes.length; i += 20) {
            x.feed(word(bytes, i), word(bytes, i + 4), word(bytes, i + 8), word(bytes, i + 12), word(bytes, i + 16));
        }
        x.end(bytes.length);
    }

    void tape(String text) {
        tape(text.getBytes(java.nio.charset.StandardCharsets.ISO_8859_1));
    }

    int slot(byte... bytes) {
        tape(bytes);
        return x.raw();
    }

    /** Pushes bytes into a connection: how many replies there were. */
    int push(int connection, byte... bytes) {
        return x.push(connection, slot(bytes), 0, bytes.length);
    }

    byte[] bytes(int slot) {
        Message all = new Message();
        int size = x.length(slot);
        // By words where it can be: an object has no more than 512 calls.
        for (int i = 0; i < size / 4; i++) {
            all.words(x.word(slot, 4 * i));
        }
        for (int i = size / 4 * 4; i < size; i++) {
            all.plain((byte) x.byteAt(slot, i));
        }
        return all.bytes();
    }

    byte[] latest() {
        return bytes(x.count(0) - 1);
    }

    /** The reply to a record that is pushed whole, without its fragment's word; null without one. */
    byte[] send(int connection, Message record) {
        if (push(connection, record.fragment()) != 1) {
            return null;
        }
        byte[] all = latest();
        return java.util.Arrays.copyOfRange(all, 4, all.length);
    }

    /** What the reply to a record says, -1 when there is none. */
    int saidTo(int connection, Message record) {
        int number = record.firstWord();
        return push(connection, record.fragment()) == 1 ? x.says(x.count(0) - 1, number) : -1;
    }

    /** The key has that value, by a call with that number. */
    void set(int connection, int number, String key, long value) {
        tape(key);
        int call = x.call(number, 1, 1, true, value);
        x.push(connection, call, 0, x.length(call));
    }

    long value(String key) {
        tape(key);
        return x.value();
    }

    boolean has(String key) {
        tape(key);
        return x.has();
    }

    private static int word(byte[] bytes, int i) {
        int w = 0;
        for (int k = i; k < i + 4; k++) {
            w = w << 8 | (k < bytes.length ? bytes[k] & 255 : 0);
        }
        return w;
    }
}
