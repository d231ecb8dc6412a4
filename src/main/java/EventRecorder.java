/**
 * A recorder of events inside a program. The document's numbered promises say what each call
 * answers; every row of bytes is made once, in the constructor, and used again by all calls.
 */
public final class EventRecorder {
    public static final int NONE = -1;

    private static final int MIN_SIZE = 16;
    private static final int MAX_SIZE = 60;
    private static final int MAX_POOL = 4;
    private static final int MIN_KEPT = 1;
    private static final int MAX_KEPT = 5;

    private static final int THREADS = 3;
    private static final int MAX_BEGUN = 3;
    private static final int MAX_TYPES = 6;
    private static final int MAX_INTS = 3;
    private static final int MAX_TEXT = 40;
    private static final int MAX_STRINGS = 24;
    private static final int MAX_CHARACTERS = 8;
    private static final int MAX_RECORDINGS = 4;
    private static final int MAX_ADVANCE = 1000;
    private static final int MAX_THRESHOLD_DIGITS = 3;
    private static final int ROTATE_ABOVE = 150;

    private static final int NEW = 0;
    private static final int RUNNING = 1;
    private static final int STOPPED = 2;
    private static final int CLOSED = 3;

    private static final int COMMITTED = 0;
    private static final int NOT_BEGUN = 1;
    private static final int NOT_ON = 2;
    private static final int TOO_SHORT = 3;
    private static final int LOST = 4;

    private static final int CHUNK_MARK = 70;
    private static final int LOSS_MARK = 63;
    private static final int END_OF_BYTES = 0;

    private static final int MAX_VARIABLE = 5;
    // A loss: its length, its mark and its thread take one byte each.
    private static final int MAX_LOSS = 3 + MAX_VARIABLE;
    // An event without its length: the type and the string's number take one byte each.
    private static final int MAX_PAYLOAD = 2 + (2 + MAX_INTS) * MAX_VARIABLE;
    // What a written chunk has beside its bytes: mark, three numbers, end, count, strings.
    private static final int MAX_FRAME = 3 + 3 * MAX_VARIABLE + MAX_STRINGS * (2 + MAX_CHARACTERS);

    private final int size;
    private final Text text;
    private final StringTable strings;
    private final EventThread[] threads;
    private final int[] typeInts;
    private final boolean[] typeStrings;
    private int typeCount;
    private final Recording[] recordings;
    private int recordingCount;
    private final Pool shared;
    private final Chunks chunks;
    private final ByteRow payload;
    private final ByteRow written;
    private int now;

    public EventRecorder(int size, int pool, int kept) {
        this.size = Math.max(MIN_SIZE, Math.min(size, MAX_SIZE));
        int poolSize = Math.max(0, Math.min(pool, MAX_POOL));
        int keptLimit = Math.max(MIN_KEPT, Math.min(kept, MAX_KEPT));
        // An open chunk over ROTATE_ABOVE rotates at once, so no more than this comes together.
        int chunkBytes = ROTATE_ABOVE + (poolSize + THREADS) * this.size + THREADS * MAX_LOSS;
        text = new Text();
        strings = new StringTable();
        threads = new EventThread[THREADS];
        for (int k = 0; k < THREADS; k++) {
            threads[k] = new EventThread(this.size);
        }
        typeInts = new int[MAX_TYPES];
        typeStrings = new boolean[MAX_TYPES];
        recordings = new Recording[MAX_RECORDINGS];
        for (int k = 0; k < MAX_RECORDINGS; k++) {
            recordings[k] = new Recording();
        }
        shared = new Pool(poolSize, this.size);
        chunks = new Chunks(keptLimit, chunkBytes);
        payload = new ByteRow(MAX_PAYLOAD);
        written = new ByteRow(keptLimit * (chunkBytes + MAX_FRAME));
    }

    public boolean write(char c) {
        return text.append(c);
    }

    public int advance(int n) {
        if (n >= 0 && n <= MAX_ADVANCE) {
            now += n;
        }
        return now;
    }

    public int type(int ints, boolean string) throws IllegalArgumentException, IllegalStateException {
        if (ints < 0 || ints > MAX_INTS) {
            throw new IllegalArgumentException("an event has 0 to 3 ints");
        }
        if (typeCount >= MAX_TYPES) {
            throw new IllegalStateException("all types are declared");
        }
        typeInts[typeCount] = ints;
        typeStrings[typeCount] = string;
        typeCount++;
        return typeCount - 1;
    }

    public boolean begin(int thread) {
        return isThread(thread) && threads[thread].beginAt(now);
    }

    public int commit(int thread, int type, int a, int b, int c) {
        if (!isThread(thread) || !isType(type)) {
            return NONE;
        }
        int answer = endEvent(threads[thread], type, a, b, c);
        if (typeStrings[type]) {
            text.clear();
        }
        return answer;
    }

    public int flush() {
        Chunk open = chunks.open();
        int moved = shared.moveFirstTo(open.body());
        if (open.body().length() > ROTATE_ABOVE) {
            rotate();
        }
        return moved;
    }

    public int record() throws IllegalStateException {
        if (recordingCount >= MAX_RECORDINGS) {
            throw new IllegalStateException("all recordings are made");
        }
        recordingCount++;
        return recordingCount - 1;
    }

    public int settings(int recording) throws IllegalArgumentException, IllegalStateException {
        int items = countItems(0, text.length());
        boolean good = isRecording(recording) && items != NONE;
        boolean closed = good && recordings[recording].is(CLOSED);
        if (good && !closed) {
            applyItems(recordings[recording], 0, items);
        }
        text.clear();
        if (!good) {
            throw new IllegalArgumentException("no such recording, or the text is not settings");
        }
        if (closed) {
            throw new IllegalStateException("the recording is closed");
        }
        return items;
    }

    public int profile() {
        int carriedOut = 0;
        int bad = 0;
        int from = 0;
        for (int k = 0; k <= text.length(); k++) {
            if (k == text.length() || text.at(k) == '|') {
                if (carryOutPart(from, k)) {
                    carriedOut++;
                } else {
                    bad++;
                }
                from = k + 1;
            }
        }
        text.clear();
        return 10 * carriedOut + bad;
    }

    public int start(int recording) throws IllegalArgumentException, IllegalStateException {
        if (!isRecording(recording)) {
            throw new IllegalArgumentException("no such recording");
        }
        if (!recordings[recording].is(NEW)) {
            throw new IllegalStateException("the recording is not new");
        }
        rotate();
        int number = chunks.open().number();
        recordings[recording].runFrom(number);
        return number;
    }

    public int stop(int recording) throws IllegalArgumentException, IllegalStateException {
        if (!isRecording(recording)) {
            throw new IllegalArgumentException("no such recording");
        }
        if (!recordings[recording].is(RUNNING)) {
            throw new IllegalStateException("the recording does not run");
        }
        return endRecording(recordings[recording]);
    }

    public boolean close(int recording) throws IllegalArgumentException, IllegalStateException {
        if (!isRecording(recording)) {
            throw new IllegalArgumentException("no such recording");
        }
        Recording chosen = recordings[recording];
        if (chosen.is(CLOSED)) {
            throw new IllegalStateException("the recording is closed already");
        }
        boolean ran = chosen.is(RUNNING);
        if (ran) {
            endRecording(chosen);
        }
        chosen.shut();
        return ran;
    }

    public int dump(int recording) throws IllegalArgumentException, IllegalStateException {
        if (!isRecording(recording)) {
            throw new IllegalArgumentException("no such recording");
        }
        Recording chosen = recordings[recording];
        if (chosen.is(NEW) || chosen.is(CLOSED)) {
            throw new IllegalStateException("the recording is new or closed");
        }
        if (chosen.is(RUNNING)) {
            rotate();
        }
        written.clear();
        chunks.writeKept(written, strings, chosen.firstChunk(), chosen.lastChunk());
        return written.length();
    }

    public int output(int k) {
        return written.at(k);
    }

    public int state(int recording) {
        return isRecording(recording) ? recordings[recording].phase() : NONE;
    }

    public int threshold(int recording, int type) {
        if (!isRecording(recording) || !isType(type) || !recordings[recording].isOn(type)) {
            return NONE;
        }
        return recordings[recording].leastDuration(type);
    }

    public int buffered(int thread) {
        return isThread(thread) ? threads[thread].buffer().length() : NONE;
    }

    public int count(int what) {
        switch (what) {
            case 0:
                return shared.full();
            case 1:
                return chunks.open().number();
            case 2:
                return chunks.open().body().length();
            case 3:
                return chunks.kept();
            case 4:
                return chunks.evicted();
            case 5:
                return strings.used();
            default:
                return NONE;
        }
    }

    public int lost(int thread) {
        return isThread(thread) ? threads[thread].lostInAll() : NONE;
    }

    private static boolean isThread(int thread) {
        return thread >= 0 && thread < THREADS;
    }

    private boolean isType(int type) {
        return type >= 0 && type < typeCount;
    }

    private boolean isRecording(int recording) {
        return recording >= 0 && recording < recordingCount;
    }

    private int endEvent(EventThread thread, int type, int a, int b, int c) {
        if (!thread.hasBegun()) {
            return NOT_BEGUN;
        }
        int begun = thread.endLatest();
        int interest = interestIn(type, now - begun);
        if (interest != COMMITTED) {
            return interest;
        }
        int string = typeStrings[type] ? strings.numberFor(text) : NONE;
        compose(type, begun, string, a, b, c);
        if (string >= MAX_STRINGS || !makeRoom(thread.buffer())) {
            thread.lose();
            return LOST;
        }
        thread.buffer().addVariable(payload.length());
        thread.buffer().addRow(payload);
        chunks.open().countEvent();
        if (string != NONE) {
            strings.keep(string, text);
            chunks.open().use(string);
        }
        return COMMITTED;
    }

    private int interestIn(int type, int duration) {
        int interest = NOT_ON;
        for (int k = 0; k < recordingCount; k++) {
            Recording recording = recordings[k];
            if (recording.is(RUNNING) && recording.isOn(type)) {
                if (duration >= recording.leastDuration(type)) {
                    return COMMITTED;
                }
                interest = TOO_SHORT;
            }
        }
        return interest;
    }

    private void compose(int type, int begun, int string, int a, int b, int c) {
        payload.clear();
        payload.addVariable(type);
        payload.addVariable(begun);
        payload.addVariable(now - begun);
        if (typeInts[type] > 0) {
            payload.addVariable(zigzag(a));
        }
        if (typeInts[type] > 1) {
            payload.addVariable(zigzag(b));
        }
        if (typeInts[type] > 2) {
            payload.addVariable(zigzag(c));
        }
        if (string != NONE) {
            payload.addVariable(string);
        }
    }

    private static int zigzag(int v) {
        return v >= 0 ? 2 * v : -2 * v - 1;
    }

    private boolean makeRoom(ByteRow buffer) {
        int needed = ByteRow.variableLength(payload.length()) + payload.length();
        if (needed > size) {
            return false;
        }
        return needed <= buffer.room() || shared.takeOver(buffer);
    }

    private void rotate() {
        Chunk open = chunks.open();
        for (int k = 0; k < MAX_POOL; k++) {
            shared.moveFirstTo(open.body());
        }
        for (int k = 0; k < THREADS; k++) {
            threads[k].buffer().moveTo(open.body());
        }
        // The losses stand behind the bytes of all threads, so they need a round of their own.
        for (int k = 0; k < THREADS; k++) {
            int lostHere = threads[k].takeLostInChunk();
            if (lostHere > 0) {
                open.addLoss(k, lostHere);
            }
        }
        chunks.finishOpen(now);
    }

    private int endRecording(Recording recording) {
        int number = chunks.open().number();
        rotate();
        recording.endWith(number);
        return number;
    }

    /** How many items the text has from one place up to another; NONE if it is not settings there. */
    private int countItems(int from, int to) {
        int at = from;
        for (int items = 1; items <= MAX_TEXT; items++) {
            int end = itemEnd(at);
            if (end != NONE && end == to) {
                return items;
            }
            if (end == NONE || text.at(end) != ',') {
                return NONE;
            }
            at = end + 1;
        }
        return NONE;
    }

    /**
     * Where the item that begins at a place ends; NONE if there is none. It needs no bound: at the
     * end of the settings stands a | or nothing, and neither can be in an item.
     */
    private int itemEnd(int at) {
        if (!isType(text.digitAt(at))) {
            return NONE;
        }
        if (text.at(at + 1) != '+' && text.at(at + 1) != '-') {
            return NONE;
        }
        int digits = 0;
        while (digits < MAX_THRESHOLD_DIGITS && text.digitAt(at + 2 + digits) != NONE) {
            digits++;
        }
        return at + 2 + digits;
    }

    private void applyItems(Recording recording, int from, int items) {
        int at = from;
        for (int k = 0; k < items; k++) {
            int end = itemEnd(at);
            applyItem(recording, at, end);
            at = end + 1;
        }
    }

    private void applyItem(Recording recording, int at, int end) {
        int type = text.digitAt(at);
        recording.turn(type, text.at(at + 1) == '+');
        int number = 0;
        for (int k = at + 2; k < end; k++) {
            number = 10 * number + text.digitAt(k);
        }
        if (end > at + 2) {
            recording.limit(type, number);
        }
    }

    private boolean carryOutPart(int from, int to) {
        int recording = text.digitAt(from);
        if (!isRecording(recording) || recordings[recording].is(CLOSED) || text.at(from + 1) != ':') {
            return false;
        }
        int items = countItems(from + 2, to);
        if (items == NONE) {
            return false;
        }
        applyItems(recordings[recording], from + 2, items);
        return true;
    }

    /** A row of bytes that grows up to the room that it was made with. */
    private static final class ByteRow {
        private final byte[] bytes;
        private int length;

        ByteRow(int room) {
            bytes = new byte[room];
        }

        int length() {
            return length;
        }

        int room() {
            return bytes.length - length;
        }

        int at(int k) {
            return k >= 0 && k < length ? bytes[k] & 255 : NONE;
        }

        void clear() {
            length = 0;
        }

        void add(int value) {
            if (length < bytes.length) {
                bytes[length] = (byte) value;
                length++;
            }
        }

        void addVariable(int value) {
            int rest = value;
            for (int k = variableLength(value); k > 1; k--) {
                add((rest & 127) + 128);
                rest = rest >>> 7;
            }
            add(rest);
        }

        void addRow(ByteRow row) {
            for (int k = 0; k < row.length; k++) {
                add(row.bytes[k]);
            }
        }

        void moveTo(ByteRow target) {
            target.addRow(this);
            clear();
        }

        static int variableLength(int value) {
            int needed = 1;
            for (int shift = 7; shift < 32; shift += 7) {
                if (value >>> shift != 0) {
                    needed++;
                }
            }
            return needed;
        }
    }

    /** The characters that were written and not yet taken. */
    private static final class Text {
        private final char[] characters;
        private int length;

        Text() {
            characters = new char[MAX_TEXT];
        }

        boolean append(char c) {
            if (length >= MAX_TEXT || c < 32 || c > 126) {
                return false;
            }
            characters[length] = c;
            length++;
            return true;
        }

        int length() {
            return length;
        }

        /** A character; code 0, which no text holds, where there is none. */
        char at(int k) {
            return k >= 0 && k < length ? characters[k] : (char) 0;
        }

        int digitAt(int k) {
            char c = at(k);
            return c >= '0' && c <= '9' ? c - '0' : NONE;
        }

        void clear() {
            length = 0;
        }
    }

    /** The strings that have numbers; they lie one behind another, each in a field of full width. */
    private static final class StringTable {
        private final char[] characters;
        private final int[] lengths;
        private int used;

        StringTable() {
            characters = new char[MAX_STRINGS * MAX_CHARACTERS];
            lengths = new int[MAX_STRINGS];
        }

        int used() {
            return used;
        }

        /** The number of the string that the text begins with, or the one that it would get. */
        int numberFor(Text text) {
            for (int k = 0; k < used; k++) {
                if (isSame(k, text)) {
                    return k;
                }
            }
            return used;
        }

        void keep(int number, Text text) {
            if (number != used || used >= MAX_STRINGS) {
                return;
            }
            lengths[used] = usedLength(text);
            for (int k = 0; k < lengths[used]; k++) {
                characters[used * MAX_CHARACTERS + k] = text.at(k);
            }
            used++;
        }

        void writeTo(ByteRow row, int number) {
            if (number < 0 || number >= used) {
                return;
            }
            row.addVariable(number);
            row.addVariable(lengths[number]);
            for (int k = 0; k < lengths[number]; k++) {
                row.add(characters[number * MAX_CHARACTERS + k]);
            }
        }

        private boolean isSame(int number, Text text) {
            if (lengths[number] != usedLength(text)) {
                return false;
            }
            for (int k = 0; k < lengths[number]; k++) {
                if (characters[number * MAX_CHARACTERS + k] != text.at(k)) {
                    return false;
                }
            }
            return true;
        }

        private static int usedLength(Text text) {
            return Math.min(text.length(), MAX_CHARACTERS);
        }
    }

    /** A thread: the ticks that it has begun, its own buffer and what it lost. */
    private static final class EventThread {
        private final int[] ticks;
        private final ByteRow buffer;
        private int begun;
        private int lostInChunk;
        private int lostInAll;

        EventThread(int size) {
            ticks = new int[MAX_BEGUN];
            buffer = new ByteRow(size);
        }

        boolean beginAt(int tick) {
            if (begun >= MAX_BEGUN) {
                return false;
            }
            ticks[begun] = tick;
            begun++;
            return true;
        }

        boolean hasBegun() {
            return begun > 0;
        }

        int endLatest() {
            if (begun <= 0) {
                return NONE;
            }
            begun--;
            return ticks[begun];
        }

        ByteRow buffer() {
            return buffer;
        }

        void lose() {
            lostInChunk++;
            lostInAll++;
        }

        int takeLostInChunk() {
            int taken = lostInChunk;
            lostInChunk = 0;
            return taken;
        }

        int lostInAll() {
            return lostInAll;
        }
    }

    /** A recording: its state, its settings and the chunks between which it lies. */
    private static final class Recording {
        private final boolean[] off;
        private final int[] limits;
        private int phase;
        private int firstChunk;
        private int lastChunk;

        Recording() {
            off = new boolean[MAX_TYPES];
            limits = new int[MAX_TYPES];
            phase = NEW;
            // Until it is stopped, no chunk is behind its end.
            lastChunk = Integer.MAX_VALUE;
        }

        int phase() {
            return phase;
        }

        boolean is(int wanted) {
            return phase == wanted;
        }

        void runFrom(int chunk) {
            phase = RUNNING;
            firstChunk = chunk;
        }

        void endWith(int chunk) {
            phase = STOPPED;
            lastChunk = chunk;
        }

        void shut() {
            phase = CLOSED;
        }

        int firstChunk() {
            return firstChunk;
        }

        int lastChunk() {
            return lastChunk;
        }

        boolean isOn(int type) {
            return type >= 0 && type < MAX_TYPES && !off[type];
        }

        void turn(int type, boolean on) {
            if (type >= 0 && type < MAX_TYPES) {
                off[type] = !on;
            }
        }

        int leastDuration(int type) {
            return type >= 0 && type < MAX_TYPES ? limits[type] : NONE;
        }

        void limit(int type, int duration) {
            if (type >= 0 && type < MAX_TYPES) {
                limits[type] = duration;
            }
        }
    }

    /** The shared buffers, as a ring: the full ones follow one another from the first on. */
    private static final class Pool {
        private final ByteRow[] buffers;
        private int first;
        private int full;

        Pool(int many, int size) {
            buffers = new ByteRow[many];
            for (int k = 0; k < many; k++) {
                buffers[k] = new ByteRow(size);
            }
        }

        int full() {
            return full;
        }

        boolean takeOver(ByteRow row) {
            if (full >= buffers.length) {
                return false;
            }
            row.moveTo(buffers[(first + full) % buffers.length]);
            full++;
            return true;
        }

        int moveFirstTo(ByteRow row) {
            if (full <= 0) {
                return 0;
            }
            int moved = buffers[first].length();
            buffers[first].moveTo(row);
            first = (first + 1) % buffers.length;
            full--;
            return moved;
        }
    }

    /** A chunk, open or finished. */
    private static final class Chunk {
        private final ByteRow body;
        private final boolean[] usedStrings;
        private int number;
        private int openedAt;
        private int events;

        Chunk(int room) {
            body = new ByteRow(room);
            usedStrings = new boolean[MAX_STRINGS];
        }

        void openAs(int newNumber, int tick) {
            body.clear();
            for (int k = 0; k < MAX_STRINGS; k++) {
                usedStrings[k] = false;
            }
            number = newNumber;
            openedAt = tick;
            events = 0;
        }

        int number() {
            return number;
        }

        ByteRow body() {
            return body;
        }

        void countEvent() {
            events++;
        }

        void use(int string) {
            if (string >= 0 && string < MAX_STRINGS) {
                usedStrings[string] = true;
            }
        }

        void addLoss(int thread, int lostEvents) {
            body.addVariable(2 + ByteRow.variableLength(lostEvents));
            body.add(LOSS_MARK);
            body.addVariable(thread);
            body.addVariable(lostEvents);
        }

        void writeTo(ByteRow row, StringTable strings) {
            row.add(CHUNK_MARK);
            row.addVariable(number);
            row.addVariable(openedAt);
            row.addVariable(events);
            row.addRow(body);
            row.add(END_OF_BYTES);
            row.addVariable(countStrings());
            for (int k = 0; k < MAX_STRINGS; k++) {
                if (usedStrings[k]) {
                    strings.writeTo(row, k);
                }
            }
        }

        private int countStrings() {
            int found = 0;
            for (int k = 0; k < MAX_STRINGS; k++) {
                if (usedStrings[k]) {
                    found++;
                }
            }
            return found;
        }
    }

    /** The kept chunks, the oldest first, and behind them the open one; the evicted are used again. */
    private static final class Chunks {
        private final Chunk[] rows;
        private int kept;
        private int evicted;

        Chunks(int keptLimit, int room) {
            rows = new Chunk[keptLimit + 1];
            for (int k = 0; k <= keptLimit; k++) {
                rows[k] = new Chunk(room);
            }
            rows[0].openAs(1, 0);
        }

        Chunk open() {
            return rows[kept];
        }

        int kept() {
            return kept;
        }

        int evicted() {
            return evicted;
        }

        void finishOpen(int now) {
            int next = open().number() + 1;
            if (open().body().length() > 0) {
                kept++;
            }
            if (kept >= rows.length) {
                evictOldest();
            }
            open().openAs(next, now);
        }

        void writeKept(ByteRow row, StringTable strings, int first, int last) {
            for (int k = 0; k < kept; k++) {
                if (rows[k].number() >= first && rows[k].number() <= last) {
                    rows[k].writeTo(row, strings);
                }
            }
        }

        private void evictOldest() {
            Chunk oldest = rows[0];
            for (int k = 1; k < rows.length; k++) {
                rows[k - 1] = rows[k];
            }
            rows[rows.length - 1] = oldest;
            kept--;
            evicted++;
        }
    }
}
