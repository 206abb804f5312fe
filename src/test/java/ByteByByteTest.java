import java.util.Arrays;

/**
 * What the document says of the whole: bytes come in one by one, and errors are told at the byte at which they are
 * certain. So it does not matter how many of them one call of feed takes.
 */
public final class ByteByByteTest extends Edges {
    /** Type 0: INT 1, ZIG 2, FIXED 3, BYTES 4, PART 5 of type 0; 6 to 10 the same REPEATED. Stream 1 is OPEN. */
    private static final Run OPEN = allKinds().open(1, 0).drain();
    private static final int[] PREFIX = {0, 0, 200};

    public static void main(String[] args) {
        says("errors being told at the byte at which they are certain");
        errorsOfHeads();
        errorsAtTheEndOfFrames();
        errorsBeforeMessages();
        errorsInMessages();
        says("come in byte by byte");
        framesOfAllSorts();
        Check.end();
    }

    private static Run allKinds() {
        Run run = new Run();
        for (int kind = 0; kind < 5; kind++) {
            run = run.field(0, 1 + kind, kind, false).field(0, 6 + kind, kind, true);
        }
        return run;
    }

    private static void errorsOfHeads() {
        certain("LENGTH above 63", OPEN, 0, 1, 64, DATA, 0, 1);
        certain("STREAM above 7", OPEN, 0, 2, 0, AWAY, 0, 8);
        certain("DATA of one that is IDLE", OPEN, 0, 2, 0, DATA, 0, 2);
        Run less = OPEN.data(1, anyData(60)).drain();
        certain("DATA above the connection's window", less, 0, 3, 41, DATA, 0, 1);
        certain("DATA above the stream's window", less, 1, 3, 40, DATA, 0, 1);
        certain("DATA behind the end", OPEN.frame(DATA, END, 1), 1, 5, 9, DATA, 0, 1);
        certain("HEADERS of one that was passed", allKinds().open(2, 0), 0, 2, 1, HEADERS, 0, 1);
        certain("RESET that is too long", OPEN, 0, 1, 2, RESET, 0, 1);
        certain("WINDOW of one that is IDLE", OPEN, 0, 2, 1, WINDOW, 0, 2);
        certain("PING of a stream", OPEN, 0, 2, 1, PING, 0, 1);
    }

    private static void errorsAtTheEndOfFrames() {
        certain("WINDOW of 0", OPEN, 1, 2, 1, WINDOW, 0, 1, 0);
        certain("WINDOW that is too great", OPEN, 0, 3, 1, WINDOW, 0, 0, 156);
        certain("a payload of headers is read when it is whole", OPEN, 0, 4, 4, HEADERS, 0, 2, 128, 129, 129, 129);
        certain("HEADERS without a type", OPEN, 2, 6, 2, HEADERS, 0, 2, 2, 1);
        certain("HEADERS without END", OPEN, 1, 2, 2, HEADERS, 0, 1, 2, 1);
        certain("HEADERS behind the end", OPEN.frame(DATA, END, 1), 1, 5, 2, HEADERS, END, 1, 2, 1);
        certain("END within the three bytes", OPEN, 1, 9, 2, DATA, END, 1, 0, 0);
        certain("END behind the three bytes, LENGTH 0", OPEN.data(1, PREFIX), 1, 9, 0, DATA, END, 1);
    }

    private static void errorsBeforeMessages() {
        certain("the first byte", OPEN, 1, 7, 5, DATA, 0, 1, 1);
        certain("the third byte", OPEN, 1, 8, 5, DATA, 0, 1, 0, 0, 201);
        certain("the second one is not told before the third", OPEN, 1, 8, 5, DATA, 0, 1, 0, 1, 0);
    }

    private static void errorsInMessages() {
        within("a wire that is none", 12, 8, 1, 14);
        within("number 0", 12, 0);
        within("number 0 in two bytes", 12, 128, 0);
        within("a tenth byte of a tag", 13, times(10, 136));
        within("a tenth byte of what is skipped", 13, join(row(88), times(10, 255)));
        within("a length that is too great", 14, 34, 199, 1);
        within("a length of a skipped one that is too great", 14, 90, 255, 255, 255, 255, 15);
        within("a length in a part", 14, 42, 5, 8, 1, 34, 2);
        within("a part that ends too soon", 14, 42, 3, 29, 1, 2);
        within("a row that ends too soon", 14, 50, 2, 1, 129);
        within("a row of FIXED that ends too soon", 14, 66, 5, 1, 2, 3, 4, 5);
        within("a 49th value of a row", 15, join(row(50, 49), times(49, 1)));
        within("a 17th node", 15, times(16, 82, 0));
        within("a fifth node of a chain", 15, 42, 60, 42, 50, 42, 40, 42, 30);
        certain("a message that ends too soon", OPEN, 1, 14, 9, DATA, 0, 1, 0, 0, 3, 8, 1, 8);
    }

    /** An error in a message of 200 bytes, of which so many come. */
    private static void within(String what, int code, int... bytes) {
        certain(what, OPEN, 1, code, join(row(60, DATA, 0, 1), PREFIX, bytes));
    }

    /** The bytes make the error with their last one: not before, and not otherwise if one call has several. */
    private static void certain(String what, Run before, int s, int code, int... bytes) {
        Run almost = one(before, Arrays.copyOf(bytes, bytes.length - 1));
        same(what + ": code before the last byte", almost.desk().code(s), 0);
        same(what + ": code at the last byte", one(before, bytes).desk().code(s), code);
        for (int[] more : new int[][] {{}, {0}, {255, 1}}) {
            together(what + ", " + more.length + " bytes behind it", before, join(bytes, more));
        }
    }

    private static Run one(Run before, int... bytes) {
        Run run = before;
        for (int b : bytes) {
            run = run.feed(b, 1);
        }
        return run;
    }

    /** All that looks answer the same if the bytes come one by one, and by twos, threes and fours from any on. */
    private static void together(String what, Run before, int... bytes) {
        Run due = one(before, bytes);
        for (int n = 2; n <= 4; n++) {
            for (int first = 0; first < n && first < bytes.length; first++) {
                Run run = one(before, Arrays.copyOf(bytes, first));
                for (int at = first; at < bytes.length; at += n) {
                    int most = Math.min(n, bytes.length - at);
                    run = run.feed(Line.together(bytes, at, most), most);
                }
                for (String change : run.sight().since(due.sight())) {
                    Check.told(what + ": by " + n + " from byte " + first + " on, not due is " + change);
                }
            }
        }
    }

    /** Two streams wait for windows, which come among frames of all other sorts. */
    private static void framesOfAllSorts() {
        int[] body = join(row(34, 40), times(40, 7), row(8, 5, 42, 2, 8, 9, 50, 3, 1, 2, 3));
        Run waiting = OPEN.open(2, 0).message(1, body).message(2, body).answer(1).answer(2).answer(1).answer(2)
                .finish(2).drain();
        int[] frames = join(row(1, PING, 0, 0, 5), row(1, WINDOW, 0, 0, 50), row(0, AWAY, 0, 0),
                row(1, WINDOW, 0, 1, 20), row(3, 9, 1, 77, 1, 2, 3), row(1, WINDOW, 0, 2, 70), row(0, DATA, 0, 1),
                row(4, HEADERS, 0, 3, 129, 66, 5, 133), row(1, WINDOW, 0, 0, 90), row(1, PING, 2, 0, 6),
                row(6, DATA, 0, 3, 0, 0, 2, 8, 150, 1), row(1, RESET, 0, 1, 9), row(0, HEADERS, END, 2));
        same("what waits has not been sent", waiting.desk().window(0, true), 0);
        together("frames of all sorts", waiting, frames);
        Run after = waiting.bytes(frames);
        same("stream 1 is SHUT by RESET", after.desk().code(1), 109);
        same("stream 2 is SHUT by both ends", after.desk().state(2) * 1000 + after.desk().code(2), 4000);
        same("stream 3 has an error", after.desk().code(3), 14);
        same("the connection is not DOWN", after.desk().state(0), 1);
    }
}
