/** One end of a connection that carries calls; README.md tells how it is used. */
public final class CallDesk {
    public static final int BAD = -1, DOWN = -2, FULL = -3;

    private static final int DATA = 0, HEADERS = 1, RESET = 2, WINDOW = 3, PING = 4, AWAY = 5;
    private static final int HEAD = 4, LENGTH_MOST = 63, PAYLOAD = 64, END = 1;
    // Place 0 of what is kept by streams is the connection's, so that a stream's number is its place.
    private static final int STREAMS = 8, LAST_STREAM = 7;
    private static final int IDLE = 0, OPEN = 1, SHUT = 2;
    private static final int CONNECTION_WINDOW = 100, STREAM_WINDOW = 60, WINDOW_MOST = 255;

    private static final int HEADERS_KEPT = 8, ALL_HEADERS = STREAMS * HEADERS_KEPT;
    private static final int TABLE_MOST = 16, GIVEN_HEADERS = 4, NAME_OF_TYPE = 1;

    private static final int TYPES = 4, NUMBERS = 16, ALL_FIELDS = TYPES * NUMBERS;
    private static final int NONE = -1, INT = 0, ZIG = 1, FIXED = 2, BYTES = 3, PART = 4, KIND_MOST = 7;

    private static final int PREFIX_BYTES = 3, MESSAGE_MOST = 200, ALL_TEXT = STREAMS * MESSAGE_MOST;
    private static final int NODES = 16, ALL_NODES = STREAMS * NODES;
    private static final int VALUES = 48, ALL_VALUES = STREAMS * VALUES;
    private static final int CHAIN = 4, ALL_CHAINS = STREAMS * CHAIN;
    private static final int VARINT_MOST = 10;

    private static final int WIRE_VARINT = 0, WIRE_EIGHT = 1, WIRE_LENGTH = 2, WIRE_FOUR = 5;
    // Errors in messages, with the 10 that they have more as errors of a stream.
    private static final int WIRE = 12, LONG = 13, ENDS = 14, MUCH = 15;

    // What the reader of a stream's messages remembers from byte to byte, by its place in `reader`.
    private static final int PREFIX = 0, LENGTH = 1, AT = 2, PHASE = 3, SUM = 4, DIGITS = 5, LEFT = 6;
    private static final int FIELD = 7, ROW_END = 8, START = 9, DEPTH = 10, READER = 11;
    private static final int ALL_READERS = STREAMS * READER;
    // FIELD is the field's place in `kinds`; place 0 is no field's, numbers beginning at 1.
    private static final int SKIPPED = 0;
    private static final int IN_TAG = 0, IN_LENGTH = 1, IN_VARINT = 2, IN_FIXED = 3, IN_BODY = 4;

    private static final int QUEUE = 500, ALL_QUEUES = STREAMS * QUEUE;
    private static final int SENT_AT_ONCE = 16, OUT_MOST = 1200;
    // One call sends at most 255 times some bytes and 7 times an end: this is far above.
    private static final int TURNS = 100000;

    private int frameAt;
    private int frameLength;
    private int frameSort;
    private int frameFlags;
    private int frameStream;
    private final int[] payload = new int[PAYLOAD];

    private boolean down;
    private final int[] life = new int[STREAMS];
    private final boolean[] theyEnded = new boolean[STREAMS];
    private final boolean[] weEnded = new boolean[STREAMS];
    private final boolean[] finishing = new boolean[STREAMS];
    private final int[] codes = new int[STREAMS];
    private final int[] windowIn = new int[STREAMS];
    private final int[] windowOut = new int[STREAMS];

    private final int[] headers = new int[ALL_HEADERS];
    private final int[] headerCount = new int[STREAMS];
    private final int[] entries = new int[TABLE_MOST];
    private int entryCount;
    private int most;
    private int typeSeen;

    private final int[] kinds = new int[ALL_FIELDS];
    private final boolean[] repeats = new boolean[ALL_FIELDS];

    private final int[] messageCount = new int[STREAMS];
    private final int[] text = new int[ALL_TEXT];
    private final int[] nodeCount = new int[STREAMS];
    // Node 0 of each stream is of the stream's type, from its opening on.
    private final int[] nodeTypes = new int[ALL_NODES];
    private final int[] valueCount = new int[STREAMS];
    private final int[] valueOwners = new int[ALL_VALUES];
    // Of BYTES the place in the message times 256, plus the length; of a PART its node.
    private final int[] values = new int[ALL_VALUES];
    private final int[] skippedCount = new int[STREAMS];
    private final int[] reader = new int[ALL_READERS];
    private final int[] chainNode = new int[ALL_CHAINS];
    private final int[] chainEnd = new int[ALL_CHAINS];

    private final int[] queue = new int[ALL_QUEUES];
    private final int[] queueLength = new int[STREAMS];
    private int lastSender;
    private final int[] sent = new int[OUT_MOST];
    private int sentLength;
    private final int[] nodeSize = new int[NODES];
    private final int[] nodePlace = new int[NODES];

    public CallDesk() {
        windowIn[0] = CONNECTION_WINDOW;
        windowOut[0] = CONNECTION_WINDOW;
        most = TABLE_MOST;
        for (int k = 0; k < ALL_FIELDS; k++) {
            kinds[k] = NONE;
        }
    }

    public boolean field(int type, int number, int kind, boolean repeated) {
        if (type < 0 || type >= TYPES || number < 1 || number >= NUMBERS || kind < NONE || kind > KIND_MOST) {
            return false;
        }
        for (int s = 1; s < STREAMS; s++) {
            if (life[s] != IDLE) {
                return false;
            }
        }
        kinds[type * NUMBERS + number] = kind;
        repeats[type * NUMBERS + number] = repeated;
        return true;
    }

    public int feed(int bytes, int n) {
        if (n < 1 || n > 4) {
            return BAD;
        }
        int frames = 0;
        for (int k = 0; k < n && !down; k++) {
            int b = (bytes >>> (8 * k)) & 255;
            if (frameAt < HEAD) {
                takeHead(b);
            } else if (frameSort == DATA) {
                takeData(b);
            } else {
                payload[frameAt - HEAD] = b;
            }
            frameAt++;
            if (!down && frameAt == HEAD + frameLength) {
                endFrame();
                frameAt = 0;
                frames++;
            }
        }
        if (down) {
            return DOWN;
        }
        sendQueues();
        return frames;
    }

    public int grant(int s, int n) {
        if (down) {
            return DOWN;
        }
        if (s != 0 && !isOpen(s) || n < 1 || n > WINDOW_MOST || windowIn[s] + n > WINDOW_MOST) {
            return BAD;
        }
        windowIn[s] += n;
        sendShort(WINDOW, 0, s, n);
        return windowIn[s];
    }

    public int answer(int s) {
        if (down) {
            return DOWN;
        }
        if (!isOpen(s) || finishing[s] || !hasMessage(s)) {
            return BAD;
        }
        int length = measure(s);
        if (queueLength[s] + PREFIX_BYTES + length > QUEUE) {
            return FULL;
        }
        writeMessage(s, length);
        sendQueues();
        return length;
    }

    public boolean finish(int s) {
        if (down || !isOpen(s) || finishing[s]) {
            return false;
        }
        finishing[s] = true;
        sendQueues();
        return true;
    }

    public boolean cancel(int s, int code) {
        if (down || !isOpen(s) || code < 20 || code > 99) {
            return false;
        }
        failStream(s, code);
        return true;
    }

    public int state(int s) {
        if (s == 0) {
            return down ? 4 : 1;
        }
        if (!isStream(s)) {
            return BAD;
        }
        if (life[s] != OPEN) {
            return life[s] == IDLE ? 0 : 4;
        }
        if (theyEnded[s]) {
            return 2;
        }
        return weEnded[s] ? 3 : 1;
    }

    public int code(int s) {
        return s == 0 || isStream(s) ? codes[s] : BAD;
    }

    public int window(int s, boolean sending) {
        if (s != 0 && !isStream(s)) {
            return BAD;
        }
        return sending ? windowOut[s] : windowIn[s];
    }

    public int header(int s, int k) {
        return isStream(s) && k >= 0 && k < headerCount[s] ? headers[s * HEADERS_KEPT + k] : -1;
    }

    public int table(int k) {
        if (k == -1) {
            return most;
        }
        return k >= 0 && k < entryCount ? entries[k] : -1;
    }

    public int messages(int s) {
        return isStream(s) ? messageCount[s] : 0;
    }

    public int nodes(int s) {
        return hasMessage(s) ? nodeCount[s] : 0;
    }

    public int typeOf(int s, int node) {
        return hasNode(s, node) ? nodeTypes[s * NODES + node] : -1;
    }

    public int many(int s, int node, int number) {
        return hasField(s, node, number) ? countValues(s, node, number) : 0;
    }

    public int value(int s, int node, int number, int i) {
        if (!hasField(s, node, number)) {
            return 0;
        }
        int v = findValue(s, node, number, i);
        if (v < 0) {
            return 0;
        }
        int kind = kinds[fieldOf(s, node, number)];
        return kind == BYTES ? values[v] & 255 : values[v];
    }

    public int byteOf(int s, int node, int number, int i, int k) {
        if (!hasField(s, node, number)) {
            return -1;
        }
        int v = findValue(s, node, number, i);
        int kind = kinds[fieldOf(s, node, number)];
        if (v < 0 || kind != BYTES || k < 0 || k >= (values[v] & 255)) {
            return -1;
        }
        return text[s * MESSAGE_MOST + (values[v] >> 8) + k];
    }

    public int skipped(int s) {
        return hasMessage(s) ? skippedCount[s] : 0;
    }

    public int size(int s) {
        return hasMessage(s) ? measure(s) : 0;
    }

    public int out(int k) {
        if (k == -1) {
            return sentLength;
        }
        return k >= 0 && k < sentLength ? sent[k] : -1;
    }

    public int drain() {
        int length = sentLength;
        sentLength = 0;
        return length;
    }

    private boolean isStream(int s) {
        return s >= 1 && s <= LAST_STREAM;
    }

    private boolean isOpen(int s) {
        return s >= 1 && s <= LAST_STREAM && life[s] == OPEN;
    }

    private boolean hasMessage(int s) {
        return s >= 1 && s <= LAST_STREAM && messageCount[s] > 0 && reader[s * READER + PREFIX] < PREFIX_BYTES;
    }

    private boolean hasNode(int s, int node) {
        return node >= 0 && hasMessage(s) && node < nodeCount[s];
    }

    private boolean hasField(int s, int node, int number) {
        return number >= 1 && number < NUMBERS && hasNode(s, node);
    }

    private int fieldOf(int s, int node, int number) {
        return nodeTypes[s * NODES + node] * NUMBERS + number;
    }

    // ---- frames

    private void takeHead(int b) {
        switch (frameAt) {
            case 0:
                frameLength = b;
                break;
            case 1:
                frameSort = b;
                break;
            case 2:
                frameFlags = b;
                break;
            default:
                frameStream = b;
                beginFrame();
        }
    }

    private void beginFrame() {
        int fault = headFault();
        if (fault != 0) {
            failConnection(fault);
            return;
        }
        if (frameSort != DATA) {
            return;
        }
        int s = frameStream;
        windowIn[0] -= frameLength;
        if (life[s] == SHUT) {
            return;
        }
        if (theyEnded[s]) {
            failStream(s, 5);
        } else if (frameLength > windowIn[s]) {
            failStream(s, 3);
        } else {
            windowIn[s] -= frameLength;
        }
    }

    /** What is wrong with the four bytes as an error of the connection, or 0. */
    private int headFault() {
        int s = frameStream;
        if (frameLength > LENGTH_MOST) {
            return 1;
        }
        if (frameSort > AWAY) {
            return 0;
        }
        if (s > LAST_STREAM) {
            return 2;
        }
        boolean idle = s > 0 && life[s] == IDLE;
        switch (frameSort) {
            case DATA:
                if (s == 0 || idle) {
                    return 2;
                }
                return frameLength > windowIn[0] ? 3 : 0;
            case HEADERS:
                return s == 0 || idle && isPassed(s) ? 2 : 0;
            case AWAY:
                return 0;
            default:
                if (frameLength != 1) {
                    return 1;
                }
                if (frameSort == PING) {
                    return s > 0 ? 2 : 0;
                }
                return idle || s == 0 && frameSort == RESET ? 2 : 0;
        }
    }

    private boolean isPassed(int s) {
        for (int k = s + 1; k < STREAMS; k++) {
            if (life[k] != IDLE) {
                return true;
            }
        }
        return false;
    }

    private void endFrame() {
        switch (frameSort) {
            case HEADERS:
                endHeaders();
                break;
            case RESET:
                endReset();
                break;
            case WINDOW:
                endWindow();
                break;
            case PING:
                if ((frameFlags & END) == 0) {
                    sendShort(PING, END, 0, payload[0]);
                }
                break;
            default:
                break;
        }
        if (!down && frameSort <= HEADERS && (frameFlags & END) != 0 && life[frameStream] == OPEN) {
            endTheirSide(frameStream);
        }
    }

    private void endTheirSide(int s) {
        if (reader[s * READER + PREFIX] != 0) {
            failStream(s, 9);
            return;
        }
        theyEnded[s] = true;
        if (weEnded[s]) {
            life[s] = SHUT;
        }
    }

    private void endReset() {
        int s = frameStream;
        if (life[s] == SHUT) {
            return;
        }
        life[s] = SHUT;
        codes[s] = 100 + payload[0];
        queueLength[s] = 0;
    }

    private void endWindow() {
        int s = frameStream;
        if (life[s] == SHUT) {
            return;
        }
        int fault = 0;
        if (payload[0] == 0) {
            fault = 2;
        } else if (windowOut[s] + payload[0] > WINDOW_MOST) {
            fault = 3;
        }
        if (fault == 0) {
            windowOut[s] += payload[0];
        } else if (s == 0) {
            failConnection(fault);
        } else {
            failStream(s, fault);
        }
    }

    private void failConnection(int code) {
        down = true;
        codes[0] = code;
        sendShort(AWAY, 0, 0, code);
    }

    private void failStream(int s, int code) {
        life[s] = SHUT;
        codes[s] = code;
        queueLength[s] = 0;
        sendShort(RESET, 0, s, code);
    }

    // ---- headers

    private void endHeaders() {
        int s = frameStream;
        if (!readHeaders(s)) {
            failConnection(4);
            return;
        }
        int fault = 0;
        if (life[s] == IDLE) {
            fault = openStream(s);
        } else if (life[s] == OPEN) {
            fault = trailerFault(s);
        }
        if (fault != 0) {
            failStream(s, fault);
        }
    }

    private int openStream(int s) {
        life[s] = OPEN;
        windowIn[s] = STREAM_WINDOW;
        windowOut[s] = STREAM_WINDOW;
        if (typeSeen < 0 || typeSeen >= TYPES) {
            return 6;
        }
        nodeTypes[s * NODES] = typeSeen;
        return 0;
    }

    private int trailerFault(int s) {
        if (theyEnded[s]) {
            return 5;
        }
        return (frameFlags & END) == 0 ? 2 : 0;
    }

    private boolean readHeaders(int s) {
        typeSeen = -1;
        int at = 0;
        for (int row = 0; row < LENGTH_MOST && at < frameLength; row++) {
            int b = payload[at];
            at++;
            if (b >= 128) {
                int there = headerThere(b - 128);
                if (there < 0) {
                    return false;
                }
                keepHeader(s, there);
            } else if (b >= 32 && b < 64) {
                if (b - 32 > TABLE_MOST) {
                    return false;
                }
                limitTable(b - 32);
            } else {
                int n = b & 63;
                int rest = n == 0 ? 2 : 1;
                if (at + rest > frameLength) {
                    return false;
                }
                int name = n == 0 ? payload[at] : n;
                int entry = name * 256 + payload[at + rest - 1];
                at += rest;
                if (b >= 64) {
                    addToTable(entry);
                }
                keepHeader(s, entry);
            }
        }
        return true;
    }

    private int headerThere(int i) {
        if (i >= 1 && i <= GIVEN_HEADERS) {
            return NAME_OF_TYPE * 256 + i - 1;
        }
        int k = i - GIVEN_HEADERS - 1;
        return k >= 0 && k < entryCount ? entries[k] : -1;
    }

    private void keepHeader(int s, int entry) {
        if (typeSeen < 0 && entry >> 8 == NAME_OF_TYPE) {
            typeSeen = entry & 255;
        }
        if (life[s] != SHUT && headerCount[s] < HEADERS_KEPT) {
            headers[s * HEADERS_KEPT + headerCount[s]] = entry;
            headerCount[s]++;
        }
    }

    private void limitTable(int m) {
        most = m;
        if (entryCount > most) {
            entryCount = most;
        }
    }

    private void addToTable(int entry) {
        if (most == 0) {
            return;
        }
        if (entryCount < most) {
            entryCount++;
        }
        for (int k = entryCount - 1; k > 0; k--) {
            entries[k] = entries[k - 1];
        }
        entries[0] = entry;
    }

    // ---- messages that come in

    private void takeData(int b) {
        int s = frameStream;
        if (life[s] != OPEN) {
            return;
        }
        int fault;
        if (reader[s * READER + PREFIX] < PREFIX_BYTES) {
            fault = readPrefix(s, b);
        } else {
            fault = readByte(s, b);
        }
        if (fault != 0) {
            failStream(s, fault);
        }
    }

    private int readPrefix(int s, int b) {
        int r = s * READER;
        reader[r + PREFIX]++;
        if (reader[r + PREFIX] == 1) {
            return b == 0 ? 0 : 7;
        }
        if (reader[r + PREFIX] == 2) {
            reader[r + LENGTH] = b * 256;
            return 0;
        }
        reader[r + LENGTH] += b;
        if (reader[r + LENGTH] > MESSAGE_MOST) {
            return 8;
        }
        beginMessage(s);
        return closeEnds(s);
    }

    private void beginMessage(int s) {
        int r = s * READER;
        reader[r + AT] = 0;
        reader[r + DEPTH] = 0;
        chainNode[s * CHAIN] = 0;
        chainEnd[s * CHAIN] = reader[r + LENGTH];
        nodeCount[s] = 1;
        valueCount[s] = 0;
        skippedCount[s] = 0;
        beginElement(s);
    }

    private void beginElement(int s) {
        int r = s * READER;
        reader[r + PHASE] = IN_TAG;
        reader[r + SUM] = 0;
        reader[r + DIGITS] = 0;
        reader[r + ROW_END] = 0;
        reader[r + START] = reader[r + AT];
    }

    private void beginNumber(int s, int phase) {
        int r = s * READER;
        reader[r + PHASE] = phase;
        reader[r + SUM] = 0;
        reader[r + DIGITS] = 0;
    }

    private int readByte(int s, int b) {
        int r = s * READER;
        text[s * MESSAGE_MOST + reader[r + AT]] = b;
        reader[r + AT]++;
        int fault = 0;
        int phase = reader[r + PHASE];
        if (phase == IN_BODY) {
            reader[r + LEFT]--;
            if (reader[r + LEFT] == 0) {
                endElement(s);
            }
        } else if (phase == IN_FIXED) {
            addDigit(s, b, 8);
            if (reader[r + DIGITS] == reader[r + LEFT]) {
                fault = endNumber(s);
            }
        } else {
            addDigit(s, b & 127, 7);
            if (b > 127) {
                fault = reader[r + DIGITS] == VARINT_MOST ? LONG : 0;
            } else if (phase == IN_TAG) {
                fault = endTag(s);
            } else if (phase == IN_LENGTH) {
                fault = endLength(s);
            } else {
                fault = endNumber(s);
            }
        }
        return fault != 0 ? fault : closeEnds(s);
    }

    private void addDigit(int s, int digit, int bits) {
        int r = s * READER;
        int shift = bits * reader[r + DIGITS];
        // Java would take a shift of 32 or more modulo 32.
        if (shift < 32) {
            reader[r + SUM] |= digit << shift;
        }
        reader[r + DIGITS]++;
    }

    private int endTag(int s) {
        int r = s * READER;
        int wire = reader[r + SUM] & 7;
        int number = reader[r + SUM] >>> 3;
        if (number == 0) {
            return WIRE;
        }
        switch (wire) {
            case WIRE_VARINT:
                beginNumber(s, IN_VARINT);
                break;
            case WIRE_EIGHT:
                beginNumber(s, IN_FIXED);
                reader[r + LEFT] = 8;
                break;
            case WIRE_FOUR:
                beginNumber(s, IN_FIXED);
                reader[r + LEFT] = 4;
                break;
            case WIRE_LENGTH:
                beginNumber(s, IN_LENGTH);
                break;
            default:
                return WIRE;
        }
        reader[r + FIELD] = knownField(s, number, wire);
        return 0;
    }

    private int knownField(int s, int number, int wire) {
        if (number >= NUMBERS) {
            return SKIPPED;
        }
        int node = chainNode[s * CHAIN + reader[s * READER + DEPTH]];
        int field = fieldOf(s, node, number);
        int kind = kinds[field];
        if (kind == NONE) {
            return SKIPPED;
        }
        boolean known = wire == wireOf(kind) || wire == WIRE_LENGTH && repeats[field];
        return known ? field : SKIPPED;
    }

    private int wireOf(int kind) {
        if (kind == INT || kind == ZIG) {
            return WIRE_VARINT;
        }
        return kind == FIXED ? WIRE_FOUR : WIRE_LENGTH;
    }

    private int endLength(int s) {
        int r = s * READER;
        int length = reader[r + SUM];
        int at = reader[r + AT];
        // Below 0 as an int means 2^31 or more.
        if (length < 0 || length > chainEnd[s * CHAIN + reader[r + DEPTH]] - at) {
            return ENDS;
        }
        int kind = reader[r + FIELD] == SKIPPED ? NONE : kinds[reader[r + FIELD]];
        if (kind >= PART) {
            return beginPart(s, kind - PART, length);
        }
        if (kind == NONE || kind == BYTES) {
            reader[r + PHASE] = IN_BODY;
            reader[r + LEFT] = length;
        } else {
            beginNumber(s, kind == FIXED ? IN_FIXED : IN_VARINT);
            reader[r + LEFT] = 4;
            reader[r + ROW_END] = at + length;
        }
        int fault = kind == BYTES ? keepValue(s, at * 256 + length) : 0;
        if (fault == 0 && length == 0) {
            endElement(s);
        }
        return fault;
    }

    private int beginPart(int s, int type, int length) {
        int r = s * READER;
        int v = placeTaken(s);
        int node = nodeCount[s];
        if (v >= 0) {
            node = values[v];
        } else if (node == NODES || valueCount[s] == VALUES || reader[r + DEPTH] + 1 == CHAIN) {
            return MUCH;
        } else {
            addValue(s, node);
            nodeTypes[s * NODES + node] = type;
            nodeCount[s]++;
        }
        reader[r + DEPTH]++;
        chainNode[s * CHAIN + reader[r + DEPTH]] = node;
        chainEnd[s * CHAIN + reader[r + DEPTH]] = reader[r + AT] + length;
        beginElement(s);
        return 0;
    }

    private int endNumber(int s) {
        int r = s * READER;
        int n = reader[r + SUM];
        int fault = 0;
        if (reader[r + FIELD] != SKIPPED) {
            boolean zig = kinds[reader[r + FIELD]] == ZIG;
            fault = keepValue(s, zig ? (n >>> 1) ^ -(n & 1) : n);
        }
        if (reader[r + ROW_END] == 0) {
            endElement(s);
        } else {
            beginNumber(s, reader[r + PHASE]);
        }
        return fault;
    }

    private int keepValue(int s, int value) {
        int v = placeTaken(s);
        if (v >= 0) {
            values[v] = value;
            return 0;
        }
        if (valueCount[s] == VALUES) {
            return MUCH;
        }
        addValue(s, value);
        return 0;
    }

    /** Where the value stands that the field at hand has already, if it can have but one; else -1. */
    private int placeTaken(int s) {
        int field = reader[s * READER + FIELD];
        if (repeats[field]) {
            return -1;
        }
        int owner = chainNode[s * CHAIN + reader[s * READER + DEPTH]] * NUMBERS + field % NUMBERS;
        for (int k = 0; k < valueCount[s]; k++) {
            if (valueOwners[s * VALUES + k] == owner) {
                return s * VALUES + k;
            }
        }
        return -1;
    }

    private void addValue(int s, int value) {
        int r = s * READER;
        int v = s * VALUES + valueCount[s];
        valueOwners[v] = chainNode[s * CHAIN + reader[r + DEPTH]] * NUMBERS + reader[r + FIELD] % NUMBERS;
        values[v] = value;
        valueCount[s]++;
    }

    private void endElement(int s) {
        int r = s * READER;
        if (reader[r + FIELD] == SKIPPED) {
            skippedCount[s] += reader[r + AT] - reader[r + START];
        }
        beginElement(s);
    }

    /** Ends the row, the parts and the message whose last byte has come; answers ENDS if one is not whole. */
    private int closeEnds(int s) {
        int r = s * READER;
        if (reader[r + ROW_END] != 0 && reader[r + AT] == reader[r + ROW_END]) {
            if (reader[r + DIGITS] != 0) {
                return ENDS;
            }
            endElement(s);
        }
        for (int k = 0; k < CHAIN; k++) {
            if (reader[r + AT] < chainEnd[s * CHAIN + reader[r + DEPTH]]) {
                return 0;
            }
            if (reader[r + PHASE] != IN_TAG || reader[r + DIGITS] != 0) {
                return ENDS;
            }
            if (reader[r + DEPTH] == 0) {
                messageCount[s]++;
                reader[r + PREFIX] = 0;
                return 0;
            }
            reader[r + DEPTH]--;
        }
        return 0;
    }

    // ---- values of a message that is whole

    private int countValues(int s, int node, int number) {
        int count = 0;
        for (int k = 0; k < valueCount[s]; k++) {
            if (valueOwners[s * VALUES + k] == node * NUMBERS + number) {
                count++;
            }
        }
        return count;
    }

    private int findValue(int s, int node, int number, int i) {
        int before = 0;
        for (int k = 0; k < valueCount[s]; k++) {
            if (valueOwners[s * VALUES + k] == node * NUMBERS + number) {
                if (before == i) {
                    return s * VALUES + k;
                }
                before++;
            }
        }
        return -1;
    }

    // ---- messages that are written again

    /** Sets the sizes of all nodes; a part has a higher number than the node it is in, so the last is the first. */
    private int measure(int s) {
        for (int node = nodeCount[s] - 1; node >= 0; node--) {
            nodeSize[node] = 0;
            for (int number = 1; number < NUMBERS; number++) {
                nodeSize[node] += sizeOfField(s, node, number);
            }
        }
        return nodeSize[0];
    }

    private int sizeOfField(int s, int node, int number) {
        int bodies = sizeOfBodies(s, node, number);
        if (bodies == 0) {
            return 0;
        }
        // Tags are of one byte, numbers being at most 15.
        if (isPacked(s, node, number)) {
            return 1 + sizeOfVarint(bodies) + bodies;
        }
        return countValues(s, node, number) + bodies;
    }

    private boolean isPacked(int s, int node, int number) {
        int field = fieldOf(s, node, number);
        return repeats[field] && kinds[field] < BYTES;
    }

    private int sizeOfBodies(int s, int node, int number) {
        int kind = kinds[fieldOf(s, node, number)];
        int bodies = 0;
        for (int k = 0; k < valueCount[s]; k++) {
            if (valueOwners[s * VALUES + k] == node * NUMBERS + number) {
                bodies += sizeOfBody(kind, values[s * VALUES + k]);
            }
        }
        return bodies;
    }

    private int sizeOfBody(int kind, int value) {
        switch (kind) {
            case INT:
                return sizeOfVarint(value);
            case ZIG:
                long n = zigzag(value);
                return sizeOfVarint(n);
            case FIXED:
                return 4;
            case BYTES:
                return sizeOfVarint(value & 255) + (value & 255);
            default:
                return sizeOfVarint(nodeSize[value]) + nodeSize[value];
        }
    }

    private long zigzag(int value) {
        return ((value << 1) ^ (value >> 31)) & 0xFFFFFFFFL;
    }

    private int sizeOfVarint(long n) {
        int digits = 1;
        long rest = n >>> 7;
        for (int k = 1; k < VARINT_MOST && rest != 0; k++) {
            digits++;
            rest = rest >>> 7;
        }
        return digits;
    }

    /** Puts the message behind the queue; each node's place is known when its turn comes, as parts come later. */
    private void writeMessage(int s, int length) {
        int at = s * QUEUE + queueLength[s];
        queue[at] = 0;
        queue[at + 1] = length >> 8;
        queue[at + 2] = length & 255;
        nodePlace[0] = at + PREFIX_BYTES;
        for (int node = 0; node < nodeCount[s]; node++) {
            int place = nodePlace[node];
            for (int number = 1; number < NUMBERS; number++) {
                place = writeField(s, node, number, place);
            }
        }
        queueLength[s] += PREFIX_BYTES + length;
    }

    private int writeField(int s, int node, int number, int place) {
        int at = place;
        int kind = kinds[fieldOf(s, node, number)];
        int bodies = sizeOfBodies(s, node, number);
        boolean packed = isPacked(s, node, number);
        if (bodies > 0 && packed) {
            at = putVarint(at, number * 8 + WIRE_LENGTH);
            at = putVarint(at, bodies);
        }
        int tag = number * 8 + wireOf(kind);
        for (int k = 0; k < valueCount[s]; k++) {
            if (valueOwners[s * VALUES + k] == node * NUMBERS + number) {
                if (!packed) {
                    at = putVarint(at, tag);
                }
                at = writeBody(s, kind, values[s * VALUES + k], at);
            }
        }
        return at;
    }

    private int writeBody(int s, int kind, int value, int place) {
        int at = place;
        switch (kind) {
            case INT:
                return putVarint(at, value);
            case ZIG:
                long n = zigzag(value);
                return putVarint(at, n);
            case FIXED:
                for (int k = 0; k < 4; k++) {
                    queue[at + k] = (value >>> (8 * k)) & 255;
                }
                return at + 4;
            case BYTES:
                at = putVarint(at, value & 255);
                for (int k = 0; k < (value & 255); k++) {
                    queue[at + k] = text[s * MESSAGE_MOST + (value >> 8) + k];
                }
                return at + (value & 255);
            default:
                at = putVarint(at, nodeSize[value]);
                nodePlace[value] = at;
                return at + nodeSize[value];
        }
    }

    private int putVarint(int place, long n) {
        int at = place;
        long rest = n;
        for (int k = 1; k < VARINT_MOST && (rest >>> 7) != 0; k++) {
            queue[at] = (int) (rest & 127) + 128;
            at++;
            rest = rest >>> 7;
        }
        queue[at] = (int) rest;
        return at + 1;
    }

    // ---- sending

    private void sendQueues() {
        for (int turn = 0; turn < TURNS; turn++) {
            int s = nextSender();
            if (s == 0) {
                return;
            }
            sendData(s);
        }
    }

    private int nextSender() {
        for (int k = 0; k < LAST_STREAM; k++) {
            int s = (lastSender + k) % LAST_STREAM + 1;
            if (life[s] == OPEN && !weEnded[s]) {
                boolean ready = queueLength[s] > 0 ? windowOut[s] > 0 && windowOut[0] > 0 : finishing[s];
                if (ready) {
                    return s;
                }
            }
        }
        return 0;
    }

    private void sendData(int s) {
        int n = queueLength[s] < SENT_AT_ONCE ? queueLength[s] : SENT_AT_ONCE;
        n = windowOut[s] < n ? windowOut[s] : n;
        n = windowOut[0] < n ? windowOut[0] : n;
        boolean last = finishing[s] && n == queueLength[s];
        putOut(n);
        putOut(DATA);
        putOut(last ? END : 0);
        putOut(s);
        for (int k = 0; k < n; k++) {
            putOut(queue[s * QUEUE + k]);
        }
        for (int k = n; k < queueLength[s]; k++) {
            queue[s * QUEUE + k - n] = queue[s * QUEUE + k];
        }
        queueLength[s] -= n;
        windowOut[s] -= n;
        windowOut[0] -= n;
        lastSender = s;
        if (last) {
            weEnded[s] = true;
            if (theyEnded[s]) {
                life[s] = SHUT;
            }
        }
    }

    private void sendShort(int sort, int flags, int s, int value) {
        putOut(1);
        putOut(sort);
        putOut(flags);
        putOut(s);
        putOut(value);
    }

    private void putOut(int b) {
        if (sentLength < OUT_MOST) {
            sent[sentLength] = b;
            sentLength++;
        }
    }
}
