import java.util.Arrays;
import java.util.stream.IntStream;
import java.util.stream.Stream;

/** What the tests of edges share: each edge is told with the sentence of the document that it belongs to. */
abstract class Edges {
    static final int DATA = Run.DATA, HEADERS = Run.HEADERS, RESET = Run.RESET, WINDOW = Run.WINDOW;
    static final int PING = Run.PING, AWAY = Run.AWAY, END = Run.END;
    static final int BAD = CallDesk.BAD, DOWN = CallDesk.DOWN, FULL = CallDesk.FULL;
    /** Numbers that are far outside of all that the document names. */
    static final int[] FAR = {Integer.MIN_VALUE, Integer.MIN_VALUE + 1, -1 << 28, -256, 256, 1 << 28, 1 << 29,
        Integer.MAX_VALUE};

    private static String sentence = "";

    /** The words of the document that the edges behind this belong to. */
    static void says(String words) {
        sentence = words;
    }

    /** What the last call answers, and all that looks answer otherwise than before, as name=text. */
    static void edge(String what, Run before, Run after, int answer, String... changes) {
        after.since(before, "\"" + sentence + "\": " + what, answer, changes);
    }

    static void same(String what, long got, long due) {
        Check.same("\"" + sentence + "\": " + what, got, due);
    }

    /** An error of the connection, when OUT was empty before it. */
    static String[] down(int code, String... more) {
        return join(more, "state(0)=4", "code(0)=" + code, "OUT=1 5 0 0 " + code);
    }

    /** An error of a stream, when OUT was empty before it. */
    static String[] shut(int s, int code, String... more) {
        return join(more, "state(" + s + ")=4", "code(" + s + ")=" + code, "OUT=1 2 0 " + s + " " + code);
    }

    static String[] join(String[] some, String... more) {
        return Stream.of(some, more).flatMap(Stream::of).toArray(String[]::new);
    }

    static int[] join(int[]... rows) {
        return Line.join(rows);
    }

    static int[] row(int... bytes) {
        return bytes;
    }

    static int[] times(int n, int... bytes) {
        return Line.times(n, bytes);
    }

    /** Numbers as OUT, TABLE and headers are told. */
    static String text(int... numbers) {
        return Sight.text(IntStream.of(numbers).boxed().toList());
    }

    /** The frames of DATA in which bytes are sent when windows do not hinder. */
    static int[] frames(int s, boolean end, int... bytes) {
        int[] all = {};
        for (int at = 0; at < bytes.length; at += 16) {
            int[] piece = Arrays.copyOfRange(bytes, at, Math.min(bytes.length, at + 16));
            boolean last = end && at + 16 >= bytes.length;
            all = join(all, row(piece.length, DATA, last ? END : 0, s), piece);
        }
        return all;
    }

    static String out(int[]... frames) {
        return "OUT=" + text(join(frames));
    }

    /** The first bytes of the data of a stream without fields that may go on by 200 bytes of any value. */
    static int[] anyData(int n) {
        return Arrays.copyOf(row(0, 0, 200, 122, 197, 1), n);
    }
}
