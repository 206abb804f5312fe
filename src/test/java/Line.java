/** The other end of a desk's connection: puts frames and messages together and feeds them. */
final class Line {
    static final int DATA = 0, HEADERS = 1, RESET = 2, WINDOW = 3, PING = 4, AWAY = 5;
    static final int END = 1;

    final Desk desk = new Desk();

    /** With stream 1 OPEN, of type 0: INT 1, ZIG 2, FIXED 3, BYTES 4, PART 5 of type 0; 6 to 10 the same REPEATED. */
    static Line ofAllKinds() {
        Line line = new Line();
        for (int k = 0; k < 5; k++) {
            line.desk.field(0, 1 + k, k, false);
            line.desk.field(0, 6 + k, k, true);
        }
        return line.open(1, 0);
    }

    /** Feeds bytes by fours, as objects have but 512 calls; the answer to the last of them. */
    int bytes(int... all) {
        int last = 0;
        for (int at = 0; at < all.length; at += 4) {
            int n = Math.min(4, all.length - at);
            last = desk.feed(together(all, at, n), n);
        }
        return last;
    }

    /** Some bytes as feed takes them, that of the lowest 8 bits first. */
    static int together(int[] all, int at, int n) {
        int bytes = 0;
        for (int k = 0; k < n; k++) {
            bytes |= all[at + k] << (8 * k);
        }
        return bytes;
    }

    int frame(int sort, int flags, int stream, int... payload) {
        int last = bytes(payload.length, sort, flags, stream);
        return payload.length == 0 ? last : bytes(payload);
    }

    int head(int length, int sort, int flags, int stream) {
        return bytes(length, sort, flags, stream);
    }

    /** Opens a stream of a type by one of the headers that are given. */
    Line open(int stream, int type) {
        Check.same("opening stream " + stream, frame(HEADERS, 0, stream, 129 + type), 1);
        Check.same("state of stream " + stream + " when it is opened", desk.state(stream), 1);
        return this;
    }

    /** Feeds a whole message, in as many frames as it needs, each preceded by the room that it takes. */
    void message(int stream, int... body) {
        int[] all = new int[body.length + 3];
        all[1] = body.length >> 8;
        all[2] = body.length & 255;
        System.arraycopy(body, 0, all, 3, body.length);
        data(stream, all);
    }

    void data(int stream, int... all) {
        for (int at = 0; at < all.length; at += 50) {
            int[] part = java.util.Arrays.copyOfRange(all, at, Math.min(all.length, at + 50));
            room(0, part.length);
            room(stream, part.length);
            frame(DATA, 0, stream, part);
        }
    }

    private void room(int s, int n) {
        if (desk.window(s, false) < n) {
            desk.grant(s, n);
        }
    }

    /** Compares OUT with the bytes that are due, and empties it. */
    void sent(String what, int... due) {
        Check.same(what + ": length of OUT", desk.out(-1), due.length);
        for (int k = 0; k < due.length; k++) {
            Check.same(what + ": byte " + k + " of OUT", desk.out(k), due[k]);
        }
        Check.same(what + ": behind the end of OUT", desk.out(due.length), -1);
        Check.same(what + ": drain", desk.drain(), due.length);
        Check.same(what + ": OUT after drain", desk.out(-1), 0);
    }

    static int[] join(int[]... rows) {
        return java.util.Arrays.stream(rows).flatMapToInt(java.util.Arrays::stream).toArray();
    }

    static int[] row(int... bytes) {
        return bytes;
    }

    static int[] times(int n, int... bytes) {
        int[] all = new int[n * bytes.length];
        for (int k = 0; k < all.length; k++) {
            all[k] = bytes[k % bytes.length];
        }
        return all;
    }
}
