import java.util.Arrays;

/**
 * Calls of procedures as records of words, over connections that cut, repeat and drop what they like.
 * Each method of the face names the document's promise that it keeps.
 */
public final class RecordCalls {
    public static final int NONE = -1;

    private static final int TAPE_MOST = 1600;
    private static final int FED_BYTES = 20;
    private static final int SLOTS = 64;
    private static final int CONNECTIONS = 4;
    private static final int RECORD_MOST = 1200;
    private static final int REPLIES_KNOWN = 8;
    private static final int KEY_MOST = 16;
    private static final int KEYS_MOST = 40;
    private static final int KEYS_AT_ONCE = 8;
    private static final int CALLER_MOST = 400;

    private static final int WORD = 4;
    private static final int LAST_FRAGMENT = 0x80000000;
    private static final int FRAGMENT_LENGTH = 0x7fffffff;

    private static final int CALL = 0;
    private static final int REPLY = 1;
    private static final int CALL_FORM = 2;
    private static final int PROGRAM = 400100;
    private static final int LOWEST_VERSION = 1;
    private static final int HIGHEST_VERSION = 2;

    private static final int ACCEPTED = 0;
    private static final int REFUSED = 1;
    private static final int REFUSED_FORM = 0;
    private static final int REFUSED_CALLER = 1;
    private static final int WRONG_CALLER = 1;
    private static final int WRONG_PROOF = 3;

    private static final int DONE = 0;
    private static final int OTHER_PROGRAM = 1;
    private static final int OTHER_VERSION = 2;
    private static final int NO_PROCEDURE = 3;
    private static final int WRONG_TAKEN = 4;

    private static final int GIVEN = 0;
    private static final int MAP_FULL = 1;
    private static final int NO_KEY = 2;

    private static final int SAYS_FORM = 5;
    private static final int SAYS_CALLER = 10;
    private static final int SAYS_NOTHING = -1;
    private static final int SAYS_OTHER_NUMBER = -2;

    private final Row tape = new Row();
    private final Row[] slots = new Row[SLOTS];
    private final Connection[] connections = new Connection[CONNECTIONS];
    private final Server server = new Server();
    private final Row pushed = new Row();
    private final Row joined = new Row();
    private int slotsMade = 0;

    /** Promise 1. */
    public RecordCalls() {
        for (int i = 0; i < SLOTS; i++) {
            slots[i] = new Row();
        }
        for (int i = 0; i < CONNECTIONS; i++) {
            connections[i] = new Connection();
        }
    }

    /** Promise 2. */
    public int feed(int a, int b, int c, int d, int e) throws UnsupportedOperationException {
        if (tape.size() + FED_BYTES > TAPE_MOST) {
            throw new UnsupportedOperationException();
        }
        tape.addWord(a);
        tape.addWord(b);
        tape.addWord(c);
        tape.addWord(d);
        tape.addWord(e);
        return tape.size();
    }

    /** Promise 3. */
    public void end(int n) throws IllegalArgumentException {
        if (n < 0 || n > tape.size()) {
            throw new IllegalArgumentException();
        }
        tape.cutTo(n);
    }

    /** Promise 4. */
    public int raw() {
        newSlot().addPart(tape, 0, tape.size());
        return tapeIsSlot();
    }

    /** Promise 5. */
    public int record(int cut) throws IllegalArgumentException {
        if (cut < 1 || tape.size() + WORD * fragments(tape.size(), cut) > TAPE_MOST) {
            throw new IllegalArgumentException();
        }
        Row slot = newSlot();
        int total = tape.size();
        int count = fragments(total, cut);
        int at = 0;
        for (int i = 1; i <= count; i++) {
            int n = Math.min(cut, total - at);
            slot.addWord(i == count ? LAST_FRAGMENT | n : n);
            slot.addPart(tape, at, n);
            at += n;
        }
        return tapeIsSlot();
    }

    /** Promise 6. */
    public int call(int number, int version, int procedure, boolean isLong, long value)
            throws IllegalArgumentException {
        if (tape.size() > KEY_MOST) {
            throw new IllegalArgumentException();
        }
        joined.clear();
        joined.addWord(number);
        joined.addWord(CALL);
        joined.addWord(CALL_FORM);
        joined.addWord(PROGRAM);
        joined.addWord(version);
        joined.addWord(procedure);
        addNobody(joined);
        addNobody(joined);
        joined.addBytes(tape, 0, tape.size());
        if (isLong) {
            joined.addLong(value);
        }
        addOneFragment(joined);
        return tapeIsSlot();
    }

    /** Promise 7. */
    public int push(int connection, int slot, int from, int n) throws IndexOutOfBoundsException {
        if (!isConnection(connection) || !isSlot(slot)) {
            throw new IndexOutOfBoundsException();
        }
        Row bytes = slotRow(slot);
        if (n < 0 || from < 0 || from > bytes.size() - n) {
            throw new IndexOutOfBoundsException();
        }
        // Many replies of one push can take the place of the very slot that is pushed.
        pushed.clear();
        pushed.addPart(bytes, from, n);
        Connection line = connections[connection];
        int replies = 0;
        for (int i = 0; i < n; i++) {
            if (line.isWholeWith(pushed.at(i))) {
                Row reply = server.replyTo(line.gathered, line.replies);
                line.forgetRecord();
                replies += addReply(reply);
            }
        }
        return replies;
    }

    /** Promise 8. */
    public boolean open(int connection) throws IndexOutOfBoundsException {
        if (!isConnection(connection)) {
            throw new IndexOutOfBoundsException();
        }
        return connections[connection].openAnew();
    }

    /** Promise 9. */
    public int length(int slot) throws IndexOutOfBoundsException {
        if (!isSlot(slot)) {
            throw new IndexOutOfBoundsException();
        }
        return slotRow(slot).size();
    }

    /** Promise 10. */
    public int byteAt(int slot, int i) throws IndexOutOfBoundsException {
        if (!isSlot(slot) || i < 0 || i >= slotRow(slot).size()) {
            throw new IndexOutOfBoundsException();
        }
        return slotRow(slot).at(i);
    }

    /** Promise 11. */
    public int word(int slot, int i) throws IndexOutOfBoundsException {
        if (!isSlot(slot) || i < 0 || i > slotRow(slot).size() - WORD) {
            throw new IndexOutOfBoundsException();
        }
        return slotRow(slot).wordAt(i);
    }

    /** Promise 12. */
    public int says(int slot, int number) throws IndexOutOfBoundsException {
        if (!isSlot(slot)) {
            throw new IndexOutOfBoundsException();
        }
        if (!isJoined(slotRow(slot))) {
            return SAYS_NOTHING;
        }
        int said = saidBy(joined);
        if (said == SAYS_NOTHING || joined.wordAt(0) == number) {
            return said;
        }
        return SAYS_OTHER_NUMBER;
    }

    /** Promise 13. */
    public long value() {
        return server.map.valueAt(placeOfTape());
    }

    /** Promise 14. */
    public boolean has() {
        return placeOfTape() != NONE;
    }

    /** Promise 15. */
    public int count(int what) throws IllegalArgumentException {
        switch (what) {
            case 0:
                return slotsMade;
            case 1:
                return server.map.size();
            case 2:
                return server.done;
            case 3:
                return server.repeated;
            case 4:
                return server.bad;
            default:
                break;
        }
        int connection = what - 5;
        if (!isConnection(connection)) {
            throw new IllegalArgumentException();
        }
        return connections[connection].bytesWaiting();
    }

    private static boolean isConnection(int connection) {
        return connection >= 0 && connection < CONNECTIONS;
    }

    private boolean isSlot(int slot) {
        return slot >= 0 && slot < slotsMade && slot >= slotsMade - SLOTS;
    }

    private Row slotRow(int slot) {
        return slots[slot & SLOTS - 1];
    }

    private Row newSlot() {
        Row slot = slotRow(slotsMade);
        slotsMade++;
        slot.clear();
        return slot;
    }

    private int tapeIsSlot() {
        tape.clear();
        return slotsMade - 1;
    }

    private void addOneFragment(Row record) {
        Row slot = newSlot();
        slot.addWord(LAST_FRAGMENT | record.size());
        slot.addPart(record, 0, record.size());
    }

    private static void addNobody(Row call) {
        call.addWord(0);
        call.addWord(0);
    }

    private static int fragments(int total, int cut) {
        if (total == 0 || cut < 1) {
            return 1;
        }
        // Not (total + cut - 1) / cut, which wraps for a large cut.
        return (total - 1) / cut + 1;
    }

    /** How many slots it makes: none of a bad record. */
    private int addReply(Row reply) {
        if (reply == null) {
            return 0;
        }
        addOneFragment(reply);
        return 1;
    }

    private int placeOfTape() {
        return server.map.placeOf(tape, 0, tape.size());
    }

    /** Whether a slot is one whole record and nothing more; the record is then in joined. */
    private boolean isJoined(Row slot) {
        joined.clear();
        int total = slot.size();
        for (int at = 0; at <= total - WORD; ) {
            int head = slot.wordAt(at);
            int n = head & FRAGMENT_LENGTH;
            at += WORD;
            if (n > total - at) {
                return false;
            }
            joined.addPart(slot, at, n);
            at += n;
            if ((head & LAST_FRAGMENT) != 0) {
                return at == total;
            }
        }
        return false;
    }

    private static int saidBy(Row reply) {
        if (reply.size() < 3 * WORD || reply.wordAt(WORD) != REPLY) {
            return SAYS_NOTHING;
        }
        switch (reply.wordAt(2 * WORD)) {
            case ACCEPTED:
                return saidByAccepted(reply);
            case REFUSED:
                return saidByRefused(reply);
            default:
                return SAYS_NOTHING;
        }
    }

    private static int saidByAccepted(Row reply) {
        int size = reply.size();
        boolean hasProof = reply.wordAt(3 * WORD) != 0 || reply.wordAt(4 * WORD) != 0;
        if (size < 6 * WORD || hasProof) {
            return SAYS_NOTHING;
        }
        int code = reply.wordAt(5 * WORD);
        boolean isRight;
        switch (code) {
            case DONE:
                isRight = true;
                break;
            case OTHER_VERSION:
                isRight = size == 8 * WORD
                        && reply.wordAt(6 * WORD) == LOWEST_VERSION
                        && reply.wordAt(7 * WORD) == HIGHEST_VERSION;
                break;
            case OTHER_PROGRAM:
            case NO_PROCEDURE:
            case WRONG_TAKEN:
                isRight = size == 6 * WORD;
                break;
            default:
                isRight = false;
                break;
        }
        return isRight ? code : SAYS_NOTHING;
    }

    private static int saidByRefused(Row reply) {
        int why = reply.wordAt(3 * WORD);
        int code = reply.wordAt(4 * WORD);
        if (reply.size() == 6 * WORD && why == REFUSED_FORM
                && code == CALL_FORM && reply.wordAt(5 * WORD) == CALL_FORM) {
            return SAYS_FORM;
        }
        if (reply.size() == 5 * WORD && why == REFUSED_CALLER
                && (code == WRONG_CALLER || code == WRONG_PROOF)) {
            return SAYS_CALLER + code;
        }
        return SAYS_NOTHING;
    }

    private static int filled(int n) {
        return n + WORD - 1 & -WORD;
    }

    /** Bytes in a row that grows when it must and is used again, so that a run makes few arrays. */
    private static final class Row {
        private static final int FIRST_ROOM = 16;

        private byte[] bytes = new byte[0];
        private int used = 0;

        int size() {
            return used;
        }

        void clear() {
            used = 0;
        }

        void cutTo(int n) {
            if (n >= 0 && n < used) {
                used = n;
            }
        }

        int at(int i) {
            return i >= 0 && i < used ? bytes[i] & 255 : 0;
        }

        /** The word that begins at a byte, 0 when it is not all there. */
        int wordAt(int i) {
            if (i < 0 || i > used - WORD) {
                return 0;
            }
            return (bytes[i] & 255) << 24 | (bytes[i + 1] & 255) << 16
                    | (bytes[i + 2] & 255) << 8 | bytes[i + 3] & 255;
        }

        private void makeRoom(int n) {
            int needed = used + n;
            if (needed > bytes.length) {
                int doubled = Math.max(FIRST_ROOM, 2 * bytes.length);
                bytes = Arrays.copyOf(bytes, Math.max(needed, doubled));
            }
        }

        void add(int b) {
            makeRoom(1);
            bytes[used] = (byte) b;
            used++;
        }

        void addWord(int word) {
            makeRoom(WORD);
            bytes[used] = (byte) (word >>> 24);
            bytes[used + 1] = (byte) (word >>> 16);
            bytes[used + 2] = (byte) (word >>> 8);
            bytes[used + 3] = (byte) word;
            used += WORD;
        }

        void addLong(long number) {
            addWord((int) (number >>> 32));
            addWord((int) number);
        }

        void addTruth(boolean truth) {
            addWord(truth ? 1 : 0);
        }

        void addPart(Row other, int start, int n) {
            if (start < 0 || n < 0 || n > other.used - start) {
                return;
            }
            makeRoom(n);
            System.arraycopy(other.bytes, start, bytes, used, n);
            used += n;
        }

        void addBytes(Row other, int start, int n) {
            addWord(n);
            addPart(other, start, n);
            for (int i = n; i < filled(n); i++) {
                add(0);
            }
        }

        boolean isPart(Row other, int start, int n) {
            if (n != used) {
                return false;
            }
            for (int i = 0; i < n; i++) {
                if (at(i) != other.at(start + i)) {
                    return false;
                }
            }
            return true;
        }
    }

    /** Reads a record from front to back; what is not there as it must be is remembered, not thrown. */
    private static final class Reader {
        private Row row = new Row();
        private int at = 0;
        private boolean good = true;

        void begin(Row newRow, int start) {
            row = newRow;
            at = start;
            good = true;
        }

        Row row() {
            return row;
        }

        boolean isGood() {
            return good;
        }

        boolean isAtEnd() {
            return at == row.size();
        }

        void fail() {
            good = false;
        }

        int nextWord() {
            if (!good || at > row.size() - WORD) {
                good = false;
                return 0;
            }
            at += WORD;
            return row.wordAt(at - WORD);
        }

        long nextLong() {
            long high = nextWord();
            long low = nextWord() & 0xffffffffL;
            return high << 32 | low;
        }

        /** Passes bytes and what fills them: how many they are. */
        int nextBytes(int most) {
            int n = nextWord();
            if (!good || n < 0 || n > most || filled(n) > row.size() - at) {
                good = false;
                return 0;
            }
            for (int i = n; i < filled(n); i++) {
                if (row.at(at + i) != 0) {
                    good = false;
                }
            }
            at += filled(n);
            return n;
        }

        /** Where the bytes began that nextBytes has just passed. */
        int startOfBytes(int n) {
            return at - filled(n);
        }
    }

    /** The latest replies of a connection by the numbers of their calls. */
    private static final class Replies {
        private final Row[] rows = new Row[REPLIES_KNOWN];
        private final int[] numbers = new int[REPLIES_KNOWN];
        private int kept = 0;
        private int oldest = 0;

        Replies() {
            for (int i = 0; i < REPLIES_KNOWN; i++) {
                rows[i] = new Row();
            }
        }

        /** The reply to a number, null without. */
        Row find(int number) {
            for (int i = 0; i < kept; i++) {
                if (numbers[i] == number) {
                    return rows[i];
                }
            }
            return null;
        }

        void keep(int number, Row reply) {
            int place = kept < REPLIES_KNOWN ? kept : oldest;
            if (kept < REPLIES_KNOWN) {
                kept++;
            } else {
                oldest = (oldest + 1) % REPLIES_KNOWN;
            }
            numbers[place] = number;
            rows[place].clear();
            rows[place].addPart(reply, 0, reply.size());
        }
    }

    /** Puts the fragments of records together, and keeps the replies, which outlast a break. */
    private static final class Connection {
        private final Row gathered = new Row();
        private final Replies replies = new Replies();
        private boolean broken = false;
        private int head = 0;
        private int headBytes = 0;
        private int bytesLeft = 0;

        /** Whether a record is whole with this byte. */
        boolean isWholeWith(int b) {
            if (broken) {
                return false;
            }
            if (headBytes < WORD) {
                takeHead(b);
            } else {
                gathered.add(b);
                bytesLeft--;
            }
            if (broken || headBytes < WORD || bytesLeft > 0) {
                return false;
            }
            headBytes = 0;
            return (head & LAST_FRAGMENT) != 0;
        }

        private void takeHead(int b) {
            head = head << 8 | b;
            headBytes++;
            if (headBytes == WORD) {
                bytesLeft = head & FRAGMENT_LENGTH;
                broken = bytesLeft > RECORD_MOST - gathered.size();
            }
        }

        void forgetRecord() {
            gathered.clear();
            headBytes = 0;
            bytesLeft = 0;
        }

        boolean openAnew() {
            boolean was = broken;
            broken = false;
            forgetRecord();
            return was;
        }

        int bytesWaiting() {
            return broken ? NONE : gathered.size();
        }
    }

    /** Keys in the order in which they came, with their values. */
    private static final class KeyMap {
        private final Row[] keys = new Row[KEYS_MOST];
        private final long[] values = new long[KEYS_MOST];
        private int used = 0;

        KeyMap() {
            for (int i = 0; i < KEYS_MOST; i++) {
                keys[i] = new Row();
            }
        }

        int size() {
            return used;
        }

        boolean isFull() {
            return used >= KEYS_MOST;
        }

        boolean isPlace(int place) {
            return place >= 0 && place < used;
        }

        /** The place of the key that these bytes of a row are, NONE without. */
        int placeOf(Row row, int start, int n) {
            for (int i = 0; i < used; i++) {
                if (keys[i].isPart(row, start, n)) {
                    return i;
                }
            }
            return NONE;
        }

        long valueAt(int place) {
            return isPlace(place) ? values[place] : 0;
        }

        void setValue(int place, long newValue) {
            if (isPlace(place)) {
                values[place] = newValue;
            }
        }

        void addToValue(int place, long more) {
            if (isPlace(place)) {
                values[place] += more;
            }
        }

        void addNew(Row row, int start, int n, long newValue) {
            if (isFull()) {
                return;
            }
            keys[used].clear();
            keys[used].addPart(row, start, n);
            values[used] = newValue;
            used++;
        }

        void remove(int place) {
            if (!isPlace(place)) {
                return;
            }
            Row free = keys[place];
            for (int i = place + 1; i < used; i++) {
                keys[i - 1] = keys[i];
                values[i - 1] = values[i];
            }
            used--;
            keys[used] = free;
        }

        /** The key at a place, null without. */
        Row keyAt(int place) {
            return isPlace(place) ? keys[place] : null;
        }
    }

    /** Looks at whole records, does what they call for and writes the replies. */
    private static final class Server {
        private final KeyMap map = new KeyMap();
        private final Reader reader = new Reader();
        private final Row reply = new Row();
        private int done = 0;
        private int repeated = 0;
        private int bad = 0;

        // What the call at hand takes: read whole before anything is done.
        private final int[] keyStarts = new int[KEYS_AT_ONCE];
        private final int[] keySizes = new int[KEYS_AT_ONCE];
        private int procedure = 0;
        private int keysTaken = 0;
        private long longTaken = 0;
        private int from = 0;
        private int most = 0;

        /** The reply to a record, null when it is bad. */
        Row replyTo(Row record, Replies known) {
            if (record.size() < 2 * WORD || record.wordAt(WORD) != CALL) {
                bad++;
                return null;
            }
            int number = record.wordAt(0);
            Row old = known.find(number);
            if (old != null) {
                repeated++;
                return old;
            }
            int verdict = verdictOn(record);
            if (verdict == SAYS_NOTHING) {
                bad++;
                return null;
            }
            if (verdict == DONE && !isTaken()) {
                verdict = WRONG_TAKEN;
            }
            beginReply(number, verdict);
            if (verdict == DONE) {
                done++;
                give();
            }
            known.keep(number, reply);
            return reply;
        }

        /** What the reply will say, before a look at what the procedure takes; nothing to a bad record. */
        private int verdictOn(Row record) {
            if (record.size() < 3 * WORD) {
                return SAYS_NOTHING;
            }
            if (record.wordAt(2 * WORD) != CALL_FORM) {
                return SAYS_FORM;
            }
            reader.begin(record, 3 * WORD);
            int program = reader.nextWord();
            int version = reader.nextWord();
            procedure = reader.nextWord();
            int caller = reader.nextWord();
            int callerBytes = reader.nextBytes(CALLER_MOST);
            int proof = reader.nextWord();
            int proofBytes = reader.nextBytes(CALLER_MOST);
            if (!reader.isGood()) {
                return SAYS_NOTHING;
            }
            if (caller != 0 && caller != 1 || caller == 0 && callerBytes > 0) {
                return SAYS_CALLER + WRONG_CALLER;
            }
            if (proof != 0 || proofBytes > 0) {
                return SAYS_CALLER + WRONG_PROOF;
            }
            if (program != PROGRAM) {
                return OTHER_PROGRAM;
            }
            return verdictOnVersion(version);
        }

        private int verdictOnVersion(int version) {
            if (version != LOWEST_VERSION && version != HIGHEST_VERSION) {
                return OTHER_VERSION;
            }
            int last = version == LOWEST_VERSION ? 4 : 6;
            return procedure < 0 || procedure > last ? NO_PROCEDURE : DONE;
        }

        /** Writes the reply but for what a procedure gives. */
        private void beginReply(int number, int verdict) {
            reply.clear();
            reply.addWord(number);
            reply.addWord(REPLY);
            if (verdict == SAYS_FORM) {
                reply.addWord(REFUSED);
                reply.addWord(REFUSED_FORM);
                reply.addWord(CALL_FORM);
                reply.addWord(CALL_FORM);
            } else if (verdict > SAYS_CALLER) {
                reply.addWord(REFUSED);
                reply.addWord(REFUSED_CALLER);
                reply.addWord(verdict - SAYS_CALLER);
            } else {
                reply.addWord(ACCEPTED);
                addNobody(reply);
                reply.addWord(verdict);
            }
            if (verdict == OTHER_VERSION) {
                reply.addWord(LOWEST_VERSION);
                reply.addWord(HIGHEST_VERSION);
            }
        }

        private boolean isTaken() {
            keysTaken = 0;
            switch (procedure) {
                case 1:
                case 3:
                    takeKey();
                    longTaken = reader.nextLong();
                    break;
                case 2:
                case 6:
                    takeKey();
                    break;
                case 4:
                    takeKeys();
                    break;
                case 5:
                    from = reader.nextWord();
                    most = reader.nextWord();
                    break;
                default:
                    break;
            }
            return reader.isGood() && reader.isAtEnd();
        }

        private void takeKey() {
            if (keysTaken >= KEYS_AT_ONCE) {
                reader.fail();
                return;
            }
            int n = reader.nextBytes(KEY_MOST);
            keySizes[keysTaken] = n;
            keyStarts[keysTaken] = reader.startOfBytes(n);
            keysTaken++;
        }

        private void takeKeys() {
            int n = reader.nextWord();
            if (n < 0 || n > KEYS_AT_ONCE) {
                reader.fail();
                return;
            }
            for (int i = 0; i < n; i++) {
                takeKey();
            }
        }

        private void give() {
            switch (procedure) {
                case 1:
                    giveSet();
                    break;
                case 2:
                    giveValueAt(placeTaken(0));
                    break;
                case 3:
                    map.addToValue(placeTaken(0), longTaken);
                    giveValueAt(placeTaken(0));
                    break;
                case 4:
                    giveSum();
                    break;
                case 5:
                    giveList();
                    break;
                case 6:
                    giveRemoved();
                    break;
                default:
                    break;
            }
        }

        private int placeTaken(int i) {
            return map.placeOf(reader.row(), keyStarts[i], keySizes[i]);
        }

        private void giveSet() {
            int place = placeTaken(0);
            boolean wasThere = place != NONE;
            if (!wasThere && map.isFull()) {
                reply.addWord(MAP_FULL);
                return;
            }
            reply.addWord(GIVEN);
            reply.addTruth(wasThere);
            if (wasThere) {
                reply.addLong(map.valueAt(place));
                map.setValue(place, longTaken);
            } else {
                map.addNew(reader.row(), keyStarts[0], keySizes[0], longTaken);
            }
        }

        private void giveValueAt(int place) {
            if (place == NONE) {
                reply.addWord(NO_KEY);
                return;
            }
            reply.addWord(GIVEN);
            reply.addLong(map.valueAt(place));
        }

        private void giveSum() {
            long sum = 0;
            int missing = 0;
            for (int i = 0; i < keysTaken; i++) {
                int place = placeTaken(i);
                sum += map.valueAt(place);
                missing += place == NONE ? 1 : 0;
            }
            reply.addLong(sum);
            reply.addWord(missing);
        }

        private void giveList() {
            // The words have no sign: one that is negative here is larger than any number of keys.
            int there = from < 0 ? 0 : Math.max(0, map.size() - from);
            int wanted = most < 0 ? KEYS_AT_ONCE : Math.min(most, KEYS_AT_ONCE);
            int n = Math.min(there, wanted);
            reply.addWord(n);
            for (int i = 0; i < n; i++) {
                Row key = map.keyAt(from + i);
                if (key != null) {
                    reply.addBytes(key, 0, key.size());
                    reply.addLong(map.valueAt(from + i));
                }
            }
            reply.addTruth(there > n);
        }

        private void giveRemoved() {
            int place = placeTaken(0);
            reply.addTruth(place != NONE);
            map.remove(place);
        }
    }
}
