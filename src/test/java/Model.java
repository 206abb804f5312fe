import java.util.ArrayList;
import java.util.List;
import java.util.Map;
import java.util.TreeMap;

/**
 * A second desk, written from the document in the plainest way: a message is read anew from its first byte
 * at each byte that comes, by recursion, and written again by recursion. ModelTest compares the two.
 */
final class Model implements Face {
    /** An error in a message, of the code that the document gives it there. */
    private static final class Fault extends RuntimeException {
        private static final long serialVersionUID = 1;
        final int code;

        Fault(int code) {
            super(null, null, false, false);
            this.code = code;
        }
    }

    /** The bytes that are there end before the message does. */
    private static final class More extends RuntimeException {
        private static final long serialVersionUID = 1;

        More() {
            super(null, null, false, false);
        }
    }

    private static final class Node {
        final int type;
        final int depth;
        final Map<Integer, List<Object>> values = new TreeMap<>();

        Node(int type, int depth) {
            this.type = type;
            this.depth = depth;
        }
    }

    private final class Message {
        final List<Integer> bytes = new ArrayList<>();
        final int length;
        List<Node> nodes = new ArrayList<>();
        int at;
        int count;
        int skipped;

        Message(int length) {
            this.length = length;
        }

        /** Whether it is whole. */
        boolean read(int type) {
            nodes = new ArrayList<>();
            nodes.add(new Node(type, 1));
            at = 0;
            count = 0;
            skipped = 0;
            try {
                readNode(nodes.get(0), length);
                return true;
            } catch (More more) {
                return false;
            }
        }

        private int next(int end) {
            if (at >= end) {
                throw new Fault(4);
            }
            if (at >= bytes.size()) {
                throw new More();
            }
            return bytes.get(at++);
        }

        private long varint(int end) {
            long sum = 0;
            for (int k = 0; k < 10; k++) {
                int b = next(end);
                if (k < 5) {
                    sum += (long) (b & 127) << (7 * k);
                }
                if (b < 128) {
                    return sum & 0xFFFFFFFFL;
                }
            }
            throw new Fault(3);
        }

        private int fixed(int n, int end) {
            int sum = 0;
            for (int k = 0; k < n; k++) {
                int b = next(end);
                sum += k < 4 ? b << (8 * k) : 0;
            }
            return sum;
        }

        private List<Integer> take(int n) {
            if (at + n > bytes.size()) {
                throw new More();
            }
            at += n;
            return new ArrayList<>(bytes.subList(at - n, at));
        }

        private void readNode(Node node, int end) {
            while (at < end) {
                int start = at;
                long tag = varint(end);
                long number = tag / 8;
                int wire = (int) (tag % 8);
                if (number == 0 || wire == 3 || wire == 4 || wire > 5) {
                    throw new Fault(2);
                }
                int kind = number > 15 ? -1 : kinds[node.type][(int) number];
                boolean repeated = number <= 15 && repeats[node.type][(int) number];
                boolean row = wire == 2 && repeated && kind >= 0 && kind <= 2;
                if (kind >= 0 && (row || wire == wireOf(kind))) {
                    readKnown(node, (int) number, kind, repeated, row, end);
                } else {
                    passOver(wire, end);
                    skipped += at - start;
                }
            }
        }

        private void passOver(int wire, int end) {
            if (wire == 0) {
                varint(end);
            } else if (wire == 2) {
                take(length(end));
            } else {
                fixed(wire == 1 ? 8 : 4, end);
            }
        }

        private int length(int end) {
            long n = varint(end);
            if (n > end - at) {
                throw new Fault(4);
            }
            return (int) n;
        }

        private void readKnown(Node node, int number, int kind, boolean repeated, boolean row, int end) {
            if (row) {
                int rowEnd = length(end) + at;
                while (at < rowEnd) {
                    keep(node, number, repeated, number(kind, rowEnd));
                }
            } else if (kind <= 2) {
                keep(node, number, repeated, number(kind, end));
            } else if (kind == 3) {
                int n = length(end);
                keep(node, number, repeated, new ArrayList<Integer>());
                List<Integer> all = take(n);
                List<Object> row2 = node.values.get(number);
                row2.set(row2.size() - 1, all);
            } else {
                int n = length(end);
                readNode(part(node, number, kind - 4, repeated), at + n);
            }
        }

        private Integer number(int kind, int end) {
            if (kind == 2) {
                return fixed(4, end);
            }
            long n = varint(end);
            if (kind == 0) {
                return (int) n;
            }
            return (int) (n % 2 == 0 ? n / 2 : -(n + 1) / 2);
        }

        private void keep(Node node, int number, boolean repeated, Object value) {
            List<Object> row = node.values.computeIfAbsent(number, k -> new ArrayList<>());
            if (!repeated && !row.isEmpty()) {
                row.set(0, value);
                return;
            }
            if (count == 48) {
                throw new Fault(5);
            }
            count++;
            row.add(value);
        }

        private Node part(Node node, int number, int type, boolean repeated) {
            List<Object> row = node.values.get(number);
            if (!repeated && row != null && !row.isEmpty()) {
                return (Node) row.get(0);
            }
            if (nodes.size() == 16 || node.depth == 4) {
                throw new Fault(5);
            }
            Node part = new Node(type, node.depth + 1);
            keep(node, number, repeated, part);
            nodes.add(part);
            return part;
        }
    }

    private static int wireOf(int kind) {
        return kind <= 1 ? 0 : kind == 2 ? 5 : 2;
    }

    private static final class Stream {
        String life = "IDLE";
        boolean theyEnded;
        boolean weEnded;
        boolean finish;
        int code;
        int in;
        int out;
        int type;
        final List<Integer> headers = new ArrayList<>();
        final List<Integer> prefix = new ArrayList<>();
        Message coming;
        Message latest;
        int whole;
        List<Integer> queue = new ArrayList<>();
    }

    private final int[][] kinds = new int[4][16];
    private final boolean[][] repeats = new boolean[4][16];
    private final Stream[] streams = new Stream[8];
    private final List<Integer> table = new ArrayList<>();
    private int most = 16;
    private boolean down;
    private final List<Integer> frame = new ArrayList<>();
    private final List<Integer> sent = new ArrayList<>();
    private int lastSender = 7;

    Model() {
        for (int s = 0; s < 8; s++) {
            streams[s] = new Stream();
        }
        streams[0].in = 100;
        streams[0].out = 100;
        for (int[] row : kinds) {
            java.util.Arrays.fill(row, -1);
        }
    }

    private void send(int... bytes) {
        for (int b : bytes) {
            if (sent.size() < 1200) {
                sent.add(b);
            }
        }
    }

    private void downBy(int code) {
        down = true;
        streams[0].code = code;
        send(1, 5, 0, 0, code);
    }

    private void shutBy(int s, int code) {
        streams[s].life = "SHUT";
        streams[s].code = code;
        streams[s].queue.clear();
        send(1, 2, 0, s, code);
    }

    private boolean is(int s, String life) {
        return s >= 1 && s <= 7 && streams[s].life.equals(life);
    }

    @Override
    public boolean field(int type, int number, int kind, boolean repeated) {
        boolean inside = type >= 0 && type <= 3 && number >= 1 && number <= 15 && kind >= -1 && kind <= 7;
        for (int s = 1; s <= 7; s++) {
            inside = inside && is(s, "IDLE");
        }
        if (inside) {
            kinds[type][number] = kind;
            repeats[type][number] = repeated;
        }
        return inside;
    }

    @Override
    public int feed(int bytes, int n) {
        if (n < 1 || n > 4) {
            return -1;
        }
        int frames = 0;
        for (int k = 0; k < n && !down; k++) {
            frame.add((bytes >> (8 * k)) & 255);
            if (frame.size() == 4) {
                head(frame.get(0), frame.get(1), frame.get(3));
            } else if (frame.size() > 4 && frame.get(1) == 0 && is(frame.get(3), "OPEN")) {
                data(frame.get(3), frame.get(frame.size() - 1));
            }
            if (!down && frame.size() >= 4 && frame.size() == 4 + frame.get(0)) {
                tail(frame.get(1), frame.get(2) % 2 == 1, frame.get(3), frame.subList(4, frame.size()));
                frame.clear();
                frames++;
            }
        }
        pump();
        return down ? -2 : frames;
    }

    private void head(int length, int sort, int s) {
        if (length > 63) {
            downBy(1);
        } else if (sort <= 5 && s > 7) {
            downBy(2);
        } else if (sort == 0) {
            headOfData(length, s);
        } else if (sort == 1) {
            boolean passed = false;
            for (int t = s + 1; t <= 7; t++) {
                passed = passed || !is(t, "IDLE");
            }
            if (s == 0 || is(s, "IDLE") && passed) {
                downBy(2);
            }
        } else if (sort >= 2 && sort <= 4) {
            if (length != 1) {
                downBy(1);
            } else if (sort == 2 && s == 0 || sort != 4 && is(s, "IDLE") || sort == 4 && s > 0) {
                downBy(2);
            }
        }
    }

    private void headOfData(int length, int s) {
        if (s == 0 || is(s, "IDLE")) {
            downBy(2);
            return;
        }
        if (length > streams[0].in) {
            downBy(3);
            return;
        }
        streams[0].in -= length;
        if (is(s, "SHUT")) {
            return;
        }
        if (streams[s].theyEnded) {
            shutBy(s, 5);
        } else if (length > streams[s].in) {
            shutBy(s, 3);
        } else {
            streams[s].in -= length;
        }
    }

    private void data(int s, int b) {
        Stream x = streams[s];
        if (x.coming != null) {
            x.coming.bytes.add(b);
        } else {
            x.prefix.add(b);
            if (x.prefix.size() == 1 && b != 0) {
                shutBy(s, 7);
                return;
            }
            if (x.prefix.size() < 3) {
                return;
            }
            int length = x.prefix.get(1) * 256 + x.prefix.get(2);
            x.latest = null;
            if (length > 200) {
                shutBy(s, 8);
                return;
            }
            x.coming = new Message(length);
        }
        try {
            if (x.coming.read(x.type)) {
                x.latest = x.coming;
                x.coming = null;
                x.prefix.clear();
                x.whole++;
            }
        } catch (Fault fault) {
            shutBy(s, 10 + fault.code);
        }
    }

    private void tail(int sort, boolean end, int s, List<Integer> payload) {
        if (sort == 1 && !tailOfHeaders(end, s, payload)) {
            return;
        }
        if (sort <= 1 && end && is(s, "OPEN")) {
            Stream x = streams[s];
            x.theyEnded = true;
            if (!x.prefix.isEmpty()) {
                shutBy(s, 9);
            } else if (x.weEnded) {
                x.life = "SHUT";
            }
        }
        if (sort == 2 && is(s, "OPEN")) {
            streams[s].life = "SHUT";
            streams[s].code = 100 + payload.get(0);
            streams[s].queue.clear();
        }
        if (sort == 3 && !is(s, "SHUT")) {
            int n = payload.get(0);
            int code = n == 0 ? 2 : streams[s].out + n > 255 ? 3 : 0;
            if (code == 0) {
                streams[s].out += n;
            } else if (s == 0) {
                downBy(code);
            } else {
                shutBy(s, code);
            }
        }
        if (sort == 4 && !end) {
            send(1, 4, 1, 0, payload.get(0));
        }
    }

    /** False if the connection is down by them. */
    private boolean tailOfHeaders(boolean end, int s, List<Integer> payload) {
        List<Integer> row = new ArrayList<>();
        boolean good = readHeaders(payload, row);
        Stream x = streams[s];
        for (int header : row) {
            if (!is(s, "SHUT") && x.headers.size() < 8) {
                x.headers.add(header);
            }
        }
        if (!good) {
            downBy(4);
            return false;
        }
        if (is(s, "IDLE")) {
            x.life = "OPEN";
            x.in = 60;
            x.out = 60;
            x.type = row.stream().filter(h -> h / 256 == 1).findFirst().orElse(511) % 256;
            if (x.type > 3) {
                shutBy(s, 6);
            }
        } else if (is(s, "OPEN") && x.theyEnded) {
            shutBy(s, 5);
        } else if (is(s, "OPEN") && !end) {
            shutBy(s, 2);
        }
        return true;
    }

    private boolean readHeaders(List<Integer> payload, List<Integer> row) {
        List<Integer> rest = new ArrayList<>(payload);
        while (!rest.isEmpty()) {
            int b = rest.remove(0);
            if (b >= 128) {
                int i = b - 128;
                if (i == 0 || i > 4 + table.size()) {
                    return false;
                }
                row.add(i <= 4 ? 256 + i - 1 : table.get(i - 5));
            } else if (b >= 64 || b < 32) {
                int name = b >= 64 ? b - 64 : b;
                if (rest.size() < (name == 0 ? 2 : 1)) {
                    return false;
                }
                if (name == 0) {
                    name = rest.remove(0);
                }
                int header = 256 * name + rest.remove(0);
                row.add(header);
                if (b >= 64) {
                    table.add(0, header);
                }
            } else if (b - 32 > 16) {
                return false;
            } else {
                most = b - 32;
            }
            while (table.size() > most) {
                table.remove(table.size() - 1);
            }
        }
        return true;
    }

    private void pump() {
        while (!down) {
            int s = 0;
            for (int k = 7; k >= 1; k--) {
                int t = (lastSender + k - 1) % 7 + 1;
                Stream x = streams[t];
                boolean bytes = !x.queue.isEmpty() && x.out > 0 && streams[0].out > 0;
                boolean end = x.queue.isEmpty() && x.finish && !x.weEnded;
                if (is(t, "OPEN") && (bytes || end)) {
                    s = t;
                }
            }
            if (s == 0) {
                return;
            }
            sendData(s);
        }
    }

    private void sendData(int s) {
        Stream x = streams[s];
        int n = Math.min(Math.min(16, x.queue.size()), Math.min(x.out, streams[0].out));
        boolean end = x.finish && n == x.queue.size();
        send(n, 0, end ? 1 : 0, s);
        for (int k = 0; k < n; k++) {
            send(x.queue.remove(0));
        }
        x.out -= n;
        streams[0].out -= n;
        lastSender = s;
        if (end) {
            x.weEnded = true;
            x.life = x.theyEnded ? "SHUT" : "OPEN";
        }
    }

    @Override
    public int grant(int s, int n) {
        if (down) {
            return -2;
        }
        if (s != 0 && !is(s, "OPEN") || n < 1 || n > 255 || streams[s].in + n > 255) {
            return -1;
        }
        streams[s].in += n;
        send(1, 3, 0, s, n);
        pump();
        return streams[s].in;
    }

    @Override
    public int answer(int s) {
        if (down) {
            return -2;
        }
        if (!is(s, "OPEN") || streams[s].finish || latest(s) == null) {
            return -1;
        }
        List<Integer> bytes = written(latest(s).nodes.get(0));
        if (streams[s].queue.size() + 3 + bytes.size() > 500) {
            return -3;
        }
        streams[s].queue.add(0);
        streams[s].queue.add(bytes.size() / 256);
        streams[s].queue.add(bytes.size() % 256);
        streams[s].queue.addAll(bytes);
        pump();
        return bytes.size();
    }

    private List<Integer> written(Node node) {
        List<Integer> all = new ArrayList<>();
        node.values.forEach((number, row) -> {
            int kind = kinds[node.type][number];
            if (kind <= 2 && repeats[node.type][number]) {
                List<Integer> numbers = new ArrayList<>();
                row.forEach(value -> numbers.addAll(body(kind, value)));
                if (!row.isEmpty()) {
                    all.addAll(varint(8L * number + 2));
                    all.addAll(varint(numbers.size()));
                    all.addAll(numbers);
                }
            } else {
                for (Object value : row) {
                    all.addAll(varint(8L * number + wireOf(kind)));
                    all.addAll(body(kind, value));
                }
            }
        });
        return all;
    }

    @SuppressWarnings("unchecked")
    private List<Integer> body(int kind, Object value) {
        if (kind == 0) {
            return varint((Integer) value);
        }
        if (kind == 1) {
            long n = (Integer) value;
            return varint(n >= 0 ? 2 * n : -2 * n - 1);
        }
        List<Integer> all = new ArrayList<>();
        if (kind == 2) {
            for (int k = 0; k < 4; k++) {
                all.add(((Integer) value >> (8 * k)) & 255);
            }
            return all;
        }
        List<Integer> inner = kind == 3 ? (List<Integer>) value : written((Node) value);
        all.addAll(varint(inner.size()));
        all.addAll(inner);
        return all;
    }

    static List<Integer> varint(long n) {
        List<Integer> all = new ArrayList<>();
        long rest = n;
        while (Long.compareUnsigned(rest, 127) > 0) {
            all.add(128 + (int) (rest & 127));
            rest >>>= 7;
        }
        all.add((int) rest);
        return all;
    }

    @Override
    public boolean finish(int s) {
        if (down || !is(s, "OPEN") || streams[s].finish) {
            return false;
        }
        streams[s].finish = true;
        pump();
        return true;
    }

    @Override
    public boolean cancel(int s, int code) {
        if (down || !is(s, "OPEN") || code < 20 || code > 99) {
            return false;
        }
        shutBy(s, code);
        pump();
        return true;
    }

    private Message latest(int s) {
        return s < 1 || s > 7 ? null : streams[s].latest;
    }

    private Node node(int s, int k) {
        Message m = latest(s);
        return m == null || k < 0 || k >= m.nodes.size() ? null : m.nodes.get(k);
    }

    private List<Object> row(int s, int k, int number) {
        Node node = node(s, k);
        return node == null ? List.of() : node.values.getOrDefault(number, List.of());
    }

    @Override
    public int messages(int s) {
        return s < 1 || s > 7 ? 0 : streams[s].whole;
    }

    @Override
    public int skipped(int s) {
        return latest(s) == null ? 0 : latest(s).skipped;
    }

    @Override
    public int size(int s) {
        return latest(s) == null ? 0 : written(latest(s).nodes.get(0)).size();
    }

    @Override
    public int value(int s, int k, int number, int i) {
        List<Object> row = row(s, k, number);
        if (i < 0 || i >= row.size()) {
            return 0;
        }
        Object value = row.get(i);
        if (value instanceof Node) {
            return latest(s).nodes.indexOf(value);
        }
        return value instanceof List ? ((List<?>) value).size() : (Integer) value;
    }

    @Override
    public int byteOf(int s, int node, int number, int i, int k) {
        List<Object> row = row(s, node, number);
        if (i < 0 || i >= row.size() || !(row.get(i) instanceof List)) {
            return -1;
        }
        List<?> bytes = (List<?>) row.get(i);
        return k < 0 || k >= bytes.size() ? -1 : (Integer) bytes.get(k);
    }

    @Override
    public int state(int s) {
        if (s == 0) {
            return down ? 4 : 1;
        }
        if (s < 1 || s > 7) {
            return -1;
        }
        if (!is(s, "OPEN")) {
            return is(s, "IDLE") ? 0 : 4;
        }
        return streams[s].theyEnded ? 2 : streams[s].weEnded ? 3 : 1;
    }

    @Override
    public int drain() {
        int n = sent.size();
        sent.clear();
        return n;
    }

    @Override
    public int code(int s) {
        return s < 0 || s > 7 ? -1 : streams[s].code;
    }

    @Override
    public int window(int s, boolean sending) {
        if (s < 0 || s > 7) {
            return -1;
        }
        return sending ? streams[s].out : streams[s].in;
    }

    @Override
    public int nodes(int s) {
        return latest(s) == null ? 0 : latest(s).nodes.size();
    }

    @Override
    public int header(int s, int k) {
        return s < 1 || s > 7 || k < 0 || k >= streams[s].headers.size() ? -1 : streams[s].headers.get(k);
    }

    @Override
    public int table(int k) {
        if (k == -1) {
            return most;
        }
        return k < 0 || k >= table.size() ? -1 : table.get(k);
    }

    @Override
    public int typeOf(int s, int k) {
        return node(s, k) == null ? -1 : node(s, k).type;
    }

    @Override
    public int many(int s, int k, int number) {
        return row(s, k, number).size();
    }

    @Override
    public int out(int k) {
        if (k == -1) {
            return sent.size();
        }
        return k < 0 || k >= sent.size() ? -1 : sent.get(k);
    }
}
