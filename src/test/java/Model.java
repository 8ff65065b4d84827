import java.io.ByteArrayOutputStream;
import java.nio.BufferUnderflowException;
import java.nio.ByteBuffer;
import java.nio.charset.StandardCharsets;
import java.util.ArrayList;
import java.util.Arrays;
import java.util.LinkedHashMap;
import java.util.List;
import java.util.Map;

/** The document once more, by other means and without a thought of room: what RecordCalls is held against. */
final class Model {
    /** What a procedure takes, or a call's front, is not there as it must be. */
    private static final class NotThere extends RuntimeException {
        private static final long serialVersionUID = 1L;
    }

    private byte[] tape = {};
    private final List<byte[]> slots = new ArrayList<>();
    private final List<ByteArrayOutputStream> streams = new ArrayList<>();
    private final List<LinkedHashMap<Integer, byte[]>> known = new ArrayList<>();
    private final boolean[] broken = new boolean[4];
    private final LinkedHashMap<String, Long> map = new LinkedHashMap<>();
    private int done;
    private int repeated;
    private int bad;

    Model() {
        for (int i = 0; i < 4; i++) {
            streams.add(new ByteArrayOutputStream());
            known.add(new LinkedHashMap<>());
        }
    }

    int feed(int... words) {
        if (tape.length > 1580) {
            throw new UnsupportedOperationException();
        }
        tape = new Message().plain(tape).words(words).bytes();
        return tape.length;
    }

    void end(int n) {
        if (n < 0 || n > tape.length) {
            throw new IllegalArgumentException();
        }
        tape = Arrays.copyOf(tape, n);
    }

    int raw() {
        return slotOfTape(tape);
    }

    int record(int cut) {
        if (cut < 1) {
            throw new IllegalArgumentException();
        }
        Message all = new Message();
        int at = 0;
        while (tape.length - at > cut) {
            all.words(cut).plain(Arrays.copyOfRange(tape, at, at + cut));
            at += cut;
        }
        all.words(1 << 31 | tape.length - at).plain(Arrays.copyOfRange(tape, at, tape.length));
        if (all.bytes().length > 1600) {
            throw new IllegalArgumentException();
        }
        return slotOfTape(all.bytes());
    }

    int call(int number, int version, int procedure, boolean isLong, long value) {
        if (tape.length > 16) {
            throw new IllegalArgumentException();
        }
        Message call = Message.call(number, version, procedure).key(tape);
        return slotOfTape((isLong ? call.longOne(value) : call).fragment());
    }

    int push(int connection, int slot, int from, int n) {
        needConnection(connection);
        byte[] bytes = slot(slot);
        if (n < 0 || from < 0 || (long) from + n > bytes.length) {
            throw new IndexOutOfBoundsException();
        }
        int before = slots.size();
        for (int i = from; i < from + n && !broken[connection]; i++) {
            streams.get(connection).write(bytes[i]);
            lookAtStream(connection);
        }
        return slots.size() - before;
    }

    boolean open(int connection) {
        needConnection(connection);
        boolean was = broken[connection];
        broken[connection] = false;
        streams.get(connection).reset();
        return was;
    }

    int length(int slot) {
        return slot(slot).length;
    }

    int byteAt(int slot, int i) {
        if (i < 0 || i >= slot(slot).length) {
            throw new IndexOutOfBoundsException();
        }
        return slot(slot)[i] & 255;
    }

    int word(int slot, int i) {
        if (i < 0 || i + 4L > slot(slot).length) {
            throw new IndexOutOfBoundsException();
        }
        return ByteBuffer.wrap(slot(slot)).getInt(i);
    }

    int says(int slot, int number) {
        Joined joined = new Joined(slot(slot));
        if (!joined.whole || joined.rest != 0 || joined.bytes.length < 4) {
            return -1;
        }
        int its = ByteBuffer.wrap(joined.bytes).getInt();
        int[][] forms = {{0, 0, 0, 1}, {0, 0, 0, 2, 1, 2}, {0, 0, 0, 3}, {0, 0, 0, 4}, {1, 0, 2, 2}, {1, 1, 1}, {1, 1, 3}};
        int[] answers = {1, 2, 3, 4, 5, 11, 13};
        int said = startsWith(joined.bytes, new Message().words(its, 1, 0, 0, 0, 0).bytes()) ? 0 : -1;
        for (int i = 0; i < forms.length; i++) {
            if (Arrays.equals(joined.bytes, new Message().words(its, 1).words(forms[i]).bytes())) {
                said = answers[i];
            }
        }
        return said != -1 && its != number ? -2 : said;
    }

    long value() {
        return map.getOrDefault(text(tape), 0L);
    }

    boolean has() {
        return map.containsKey(text(tape));
    }

    int count(int what) {
        if (what < 0 || what > 8) {
            throw new IllegalArgumentException();
        }
        if (what >= 5) {
            return broken[what - 5] ? -1 : new Joined(streams.get(what - 5).toByteArray()).bytes.length;
        }
        return new int[] {slots.size(), map.size(), done, repeated, bad}[what];
    }

    /** How many of the known replies of a connection there are, for those who make up numbers. */
    List<Integer> numbersKnown(int connection) {
        return new ArrayList<>(known.get(connection).keySet());
    }

    private int slotOfTape(byte[] bytes) {
        slots.add(bytes);
        tape = new byte[0];
        return slots.size() - 1;
    }

    private byte[] slot(int slot) {
        if (slot < Math.max(0, slots.size() - 64) || slot >= slots.size()) {
            throw new IndexOutOfBoundsException();
        }
        return slots.get(slot);
    }

    private static void needConnection(int connection) {
        if (connection < 0 || connection > 3) {
            throw new IndexOutOfBoundsException();
        }
    }

    private static String text(byte[] bytes) {
        return new String(bytes, StandardCharsets.ISO_8859_1);
    }

    private static boolean startsWith(byte[] all, byte[] front) {
        return all.length >= front.length && Arrays.equals(Arrays.copyOf(all, front.length), front);
    }

    /** Bytes that begin with a record's first fragment, as far as they go. */
    private static final class Joined {
        byte[] bytes;
        boolean whole;
        boolean tooLong;
        int rest;

        Joined(byte[] all) {
            ByteBuffer in = ByteBuffer.wrap(all);
            ByteArrayOutputStream out = new ByteArrayOutputStream();
            while (!whole && in.remaining() >= 4) {
                int head = in.getInt();
                long n = head & 0x7fffffffL;
                tooLong |= out.size() + n > 1200;
                whole = head < 0 && n <= in.remaining();
                byte[] part = new byte[(int) Math.min(n, in.remaining())];
                in.get(part);
                out.writeBytes(part);
                if (part.length < n) {
                    break;
                }
            }
            bytes = out.toByteArray();
            rest = in.remaining();
        }
    }

    private void lookAtStream(int connection) {
        Joined joined = new Joined(streams.get(connection).toByteArray());
        if (joined.tooLong) {
            broken[connection] = true;
        } else if (joined.whole) {
            streams.get(connection).reset();
            byte[] reply = replyTo(connection, joined.bytes);
            if (reply == null) {
                bad++;
            } else {
                slots.add(new Message().plain(reply).fragment());
            }
        }
    }

    private byte[] replyTo(int connection, byte[] record) {
        ByteBuffer in = ByteBuffer.wrap(record);
        if (record.length < 8 || in.getInt(4) != 0) {
            return null;
        }
        int number = in.getInt(0);
        Map<Integer, byte[]> replies = known.get(connection);
        if (replies.containsKey(number)) {
            repeated++;
            return replies.get(number);
        }
        byte[] reply;
        try {
            in.position(8);
            reply = new Message().words(number, 1).plain(answer(in)).bytes();
        } catch (NotThere | BufferUnderflowException e) {
            return null;
        }
        replies.put(number, reply);
        if (replies.size() > 8) {
            replies.remove(replies.keySet().iterator().next());
        }
        return reply;
    }

    private byte[] answer(ByteBuffer in) {
        if (in.getInt() != 2) {
            return new Message().words(1, 0, 2, 2).bytes();
        }
        int program = in.getInt();
        int version = in.getInt();
        int procedure = in.getInt();
        int f = in.getInt();
        int callerBytes = opaque(in, 400).length;
        int proof = in.getInt();
        int proofBytes = opaque(in, 400).length;
        if (f != 1 && (f != 0 || callerBytes != 0)) {
            return new Message().words(1, 1, 1).bytes();
        }
        if (proof != 0 || proofBytes != 0) {
            return new Message().words(1, 1, 3).bytes();
        }
        Message front = new Message().words(0, 0, 0);
        if (program != Message.PROGRAM) {
            return front.words(1).bytes();
        }
        if (version < 1 || version > 2) {
            return front.words(2, 1, 2).bytes();
        }
        if (procedure < 0 || procedure > (version == 1 ? 4 : 6)) {
            return front.words(3).bytes();
        }
        byte[] given;
        try {
            given = give(procedure, in);
        } catch (NotThere | BufferUnderflowException e) {
            return front.words(4).bytes();
        }
        done++;
        return front.words(0).plain(given).bytes();
    }

    private static byte[] opaque(ByteBuffer in, int most) {
        int n = in.getInt();
        if (n < 0 || n > most) {
            throw new NotThere();
        }
        byte[] bytes = new byte[n];
        in.get(bytes);
        while (n++ % 4 != 0) {
            if (in.get() != 0) {
                throw new NotThere();
            }
        }
        return bytes;
    }

    private static void needEnd(ByteBuffer in) {
        if (in.hasRemaining()) {
            throw new NotThere();
        }
    }

    private byte[] give(int procedure, ByteBuffer in) {
        switch (procedure) {
            case 0:
                needEnd(in);
                return new byte[0];
            case 4:
                return giveSum(in);
            case 5:
                return giveList(in);
            default:
                break;
        }
        String key = text(opaque(in, 16));
        long more = procedure % 2 == 1 ? in.getLong() : 0;
        needEnd(in);
        Long old = map.get(key);
        switch (procedure) {
            case 1:
                if (old == null && map.size() == 40) {
                    return new Message().words(1).bytes();
                }
                map.put(key, more);
                return old == null ? new Message().words(0, 0).bytes() : new Message().words(0, 1).longOne(old).bytes();
            case 6:
                map.remove(key);
                return new Message().words(old == null ? 0 : 1).bytes();
            default:
                if (old == null) {
                    return new Message().words(2).bytes();
                }
                map.put(key, old + more);
                return new Message().words(0).longOne(old + more).bytes();
        }
    }

    private byte[] giveSum(ByteBuffer in) {
        int n = in.getInt();
        if (n < 0 || n > 8) {
            throw new NotThere();
        }
        long sum = 0;
        int missing = 0;
        while (n-- > 0) {
            Long value = map.get(text(opaque(in, 16)));
            sum += value == null ? 0 : value;
            missing += value == null ? 1 : 0;
        }
        needEnd(in);
        return new Message().longOne(sum).words(missing).bytes();
    }

    private byte[] giveList(ByteBuffer in) {
        long from = in.getInt() & 0xffffffffL;
        long most = in.getInt() & 0xffffffffL;
        needEnd(in);
        Message entries = new Message();
        int n = 0;
        int place = 0;
        boolean more = false;
        for (Map.Entry<String, Long> entry : map.entrySet()) {
            if (place++ < from) {
                continue;
            }
            if (n == most || n == 8) {
                more = true;
                break;
            }
            entries.key(entry.getKey()).longOne(entry.getValue());
            n++;
        }
        return new Message().words(n).plain(entries.bytes()).words(more ? 1 : 0).bytes();
    }
}
