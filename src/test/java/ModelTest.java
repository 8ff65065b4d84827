import java.util.List;
import java.util.Random;
import java.util.function.LongSupplier;

/** Long runs of made-up calls, each answer held against the model's. */
public final class ModelTest {
    private static final Check check = new Check("ModelTest");
    private static final int RUNS = 300;
    private static final int CALLS = 512;
    private static final int[] ODD = {-1, 0, 1, 2, 3, 4, 16, 17, 400, 401, 1200, 1201, 1 << 31, Integer.MAX_VALUE};

    private final Random random;
    private final int run;
    private final int keys;
    private final RecordCalls x = new RecordCalls();
    private final Model model = new Model();
    private int calls = 0;

    private ModelTest(int run) {
        this.run = run;
        random = new Random(run);
        keys = run % 3 == 0 ? 60 : 6;
    }

    public static void main(String[] args) {
        for (int run = 0; run < RUNS; run++) {
            ModelTest test = new ModelTest(run);
            while (test.calls < CALLS) {
                test.step();
            }
        }
        check.finish();
    }

    private int below(int n) {
        return random.nextInt(n);
    }

    private boolean seldom() {
        return below(12) == 0;
    }

    private int odd() {
        return ODD[below(ODD.length)];
    }

    private static long answer(LongSupplier call) {
        try {
            return call.getAsLong();
        } catch (UnsupportedOperationException e) {
            return Long.MIN_VALUE + 1;
        } catch (IllegalArgumentException e) {
            return Long.MIN_VALUE + 2;
        } catch (IndexOutOfBoundsException e) {
            // An array's own exception would be a fault of the program.
            return e.getClass() == IndexOutOfBoundsException.class ? Long.MIN_VALUE + 3 : Long.MIN_VALUE + 4;
        }
    }

    /** Nothing is compared behind the calls that an object has. */
    private long same(String what, LongSupplier program, LongSupplier due) {
        if (calls >= CALLS) {
            return 0;
        }
        calls++;
        long got = answer(program);
        check.same("run " + run + " call " + calls + " " + what, got, answer(due));
        return got;
    }

    private void step() {
        if (keys > 40 && calls < 250) {
            tape(manySets());
            pushSlot(raw());
            return;
        }
        switch (below(10)) {
            case 0:
            case 1:
            case 2:
                keyOnTape();
                callAndPush();
                break;
            case 3:
            case 4:
            case 5:
                tape(madeRecord());
                pushSlot(seldom() ? raw() : record());
                break;
            case 6:
                tape(manyRecords());
                pushSlot(raw());
                break;
            case 7:
                tape(stream());
                pushSlot(raw());
                break;
            default:
                look();
                break;
        }
    }

    private void tape(byte[] bytes) {
        end(0);
        for (int i = 0; i < bytes.length && i < 1600; i += 20) {
            int[] w = new int[5];
            for (int k = 0; k < 20; k++) {
                w[k / 4] = w[k / 4] << 8 | (i + k < bytes.length ? bytes[i + k] & 255 : 0);
            }
            same("feed", () -> x.feed(w[0], w[1], w[2], w[3], w[4]), () -> model.feed(w));
        }
        end(bytes.length);
    }

    private void end(int n) {
        same("end " + n, () -> {
            x.end(n);
            return 0;
        }, () -> {
            model.end(n);
            return 0;
        });
    }

    private int raw() {
        return (int) same("raw", () -> x.raw(), () -> model.raw());
    }

    private int record() {
        int cut = below(4) == 0 ? 1 + below(80) : seldom() ? odd() : 1200;
        return (int) same("record " + cut, () -> x.record(cut), () -> model.record(cut));
    }

    private byte[] key() {
        int k = below(keys);
        return ("k" + k + "-------------------").substring(0, k % 17 + (seldom() ? below(3) : 0))
                .concat(k > 16 ? "" + (char) k : "").getBytes(java.nio.charset.StandardCharsets.ISO_8859_1);
    }

    private void keyOnTape() {
        tape(key());
        if (below(3) == 0) {
            same("has", () -> x.has() ? 1 : 0, () -> model.has() ? 1 : 0);
            same("value", () -> x.value(), () -> model.value());
        }
    }

    private int number() {
        List<Integer> known = model.numbersKnown(below(4));
        return known.isEmpty() || below(4) > 0 ? random.nextInt() >> below(32) : known.get(below(known.size()));
    }

    private void callAndPush() {
        int number = number();
        int version = seldom() ? odd() : 1 + below(2);
        int procedure = seldom() ? odd() : below(3) > 0 ? 1 : below(7);
        boolean isLong = procedure == 1 || procedure == 3 ? !seldom() : seldom();
        long value = random.nextLong();
        pushSlot((int) same("call", () -> x.call(number, version, procedure, isLong, value),
                () -> model.call(number, version, procedure, isLong, value)));
    }

    private void pushSlot(int slot) {
        int c = seldom() ? below(6) - 1 : below(10) > 0 ? below(2) : below(4);
        if (model.count(5 + (c & 3)) == -1 && below(3) > 0) {
            same("open " + c, () -> x.open(c) ? 1 : 0, () -> model.open(c) ? 1 : 0);
        }
        int made = model.count(0);
        int n = slot >= 0 && slot < made && slot >= made - 64 ? model.length(slot) : 5;
        if (below(5) == 0) {
            int cut = below(n + 1);
            push(c, slot, 0, cut);
            push(seldom() ? below(4) : c, slot, cut, n - cut);
        } else {
            push(c, slot, seldom() ? odd() : 0, seldom() ? odd() : n);
        }
        if (below(2) == 0) {
            lookAtSlot(model.count(0) - 1);
        }
    }

    private void push(int c, int slot, int from, int n) {
        same("push " + c + " " + slot + " " + from + " " + n, () -> x.push(c, slot, from, n),
                () -> model.push(c, slot, from, n));
    }

    private Message bytesOrOdd(Message record, byte[] bytes) {
        if (!seldom()) {
            return record.key(bytes);
        }
        return record.words(odd()).plain(bytes).zeros(below(5));
    }

    private byte[] madeRecord() {
        Message record = new Message().words(number(), seldom() ? odd() : 0, seldom() ? odd() : 2,
                seldom() ? odd() : Message.PROGRAM, seldom() ? odd() : 1 + below(2));
        int procedure = seldom() ? odd() : below(7);
        record.words(procedure, seldom() ? odd() : below(2));
        bytesOrOdd(record, new byte[seldom() ? below(30) : 0]);
        record.words(seldom() ? odd() : 0);
        bytesOrOdd(record, new byte[seldom() ? below(30) : 0]);
        taken(record, procedure);
        byte[] all = record.zeros(seldom() ? below(6) : 0).bytes();
        if (seldom()) {
            all[below(all.length)] ^= 1 << below(8);
        }
        return seldom() ? java.util.Arrays.copyOf(all, below(all.length + 1)) : all;
    }

    private void taken(Message record, int procedure) {
        if (procedure == 4) {
            int n = below(9);
            record.words(seldom() ? odd() : n);
            for (int i = 0; i < n; i++) {
                bytesOrOdd(record, key());
            }
        } else if (procedure == 5) {
            record.words(seldom() ? odd() : below(12), seldom() ? odd() : below(12));
        } else if (procedure != 0) {
            bytesOrOdd(record, key());
            if (procedure == 1 || procedure == 3) {
                record.longOne(random.nextLong());
            }
        }
    }

    /** Enough of them at once that the map of a run with many keys gets full. */
    private byte[] manySets() {
        Message all = new Message();
        for (int i = 0; i < 22; i++) {
            all.plain(Message.call(random.nextInt(), 1, 1).key(key()).longOne(random.nextLong()).fragment());
        }
        return all.bytes();
    }

    private byte[] manyRecords() {
        Message all = new Message();
        int n = seldom() ? 133 : below(12);
        int number = number();
        for (int i = 0; i < n; i++) {
            all.plain(new Message().words(below(3) == 0 ? number() : number, 0).zeros(i % 40 == 7 ? 4 : 0).fragment());
        }
        byte[] bytes = all.bytes();
        return bytes.length > 1600 ? java.util.Arrays.copyOf(bytes, 1600) : bytes;
    }

    /** Fragments of any kind, also such as break. */
    private byte[] stream() {
        Message all = new Message();
        int n = below(5);
        for (int i = 0; i < n; i++) {
            int size = seldom() ? 300 + below(10) : below(12);
            all.words((below(2) << 31 | size) ^ (seldom() ? odd() : 0)).plain(new byte[size]);
        }
        return all.bytes();
    }

    private void look() {
        int what = seldom() ? below(14) - 3 : below(9);
        same("count " + what, () -> x.count(what), () -> model.count(what));
        int slot = model.count(0) - (seldom() ? 60 + below(8) : below(20));
        lookAtSlot(slot);
        if (seldom()) {
            int c = below(6) - 1;
            same("open " + c, () -> x.open(c) ? 1 : 0, () -> model.open(c) ? 1 : 0);
        }
        if (seldom()) {
            end(odd());
        }
    }

    private void lookAtSlot(int slot) {
        int size = (int) same("length " + slot, () -> x.length(slot), () -> model.length(slot));
        int at = size > 0 ? below(size + 2) - 1 : odd();
        same("byteAt " + slot + " " + at, () -> x.byteAt(slot, at), () -> model.byteAt(slot, at));
        for (int i = 4; i < size && i < 60 && size < 300; i += 4) {
            int w = i;
            same("word " + slot + " " + w, () -> x.word(slot, w), () -> model.word(slot, w));
        }
        same("word " + slot + " " + at, () -> x.word(slot, at), () -> model.word(slot, at));
        int number = size >= 8 && !seldom() ? model.word(slot, 4) : 5;
        same("says " + slot + " " + number, () -> x.says(slot, number), () -> model.says(slot, number));
    }
}
