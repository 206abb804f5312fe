import java.util.ArrayDeque;
import java.util.ArrayList;
import java.util.Arrays;
import java.util.List;
import java.util.Random;
import java.util.function.ToIntFunction;

/** Compares the desk with Model over many runs of calls, always the same ones. */
public final class ModelTest {
    private static final int RUNS = 5000, CALLS = 300;
    /** How often, in so many calls, all that looks is compared. */
    private static final int SIGHTS = 3;

    private final Random random;
    private final String run;
    private final Desk desk = new Desk();
    private final Model model = new Model();
    private final List<ToIntFunction<Face>> calls = new ArrayList<>();
    private final int[][] kinds = new int[4][16];
    private final boolean[][] repeats = new boolean[4][16];
    private final int[] types = new int[8];
    private final List<ArrayDeque<Integer>> coming = new ArrayList<>();
    private final ArrayDeque<Integer> line = new ArrayDeque<>();
    private final int wildness;

    private ModelTest(int seed) {
        random = new Random(seed);
        run = "run " + seed + ": ";
        wildness = new int[] {0, 1, 4, 10, 30}[random.nextInt(5)];
        for (int s = 0; s < 8; s++) {
            coming.add(new ArrayDeque<>());
        }
    }

    public static void main(String[] args) {
        int[] ends = new int[400];
        for (int seed = 1; seed <= RUNS && Check.wrong() == 0; seed++) {
            new ModelTest(seed).go(ends);
        }
        for (int code : new int[] {2, 3, 5, 6, 7, 8, 9, 12, 13, 14, 15}) {
            if (ends[code] == 0) {
                Check.told("no stream of any run ended with code " + code);
            }
        }
        if (args.length > 0) {
            System.out.println("streams by code: " + Arrays.toString(Arrays.copyOf(ends, 16)));
        }
        Check.end();
    }

    private boolean chance(int outOf100) {
        return random.nextInt(100) < outOf100;
    }

    private void go(int[] ends) {
        setFields();
        for (int call = 1; call <= CALLS && Check.wrong() == 0; call++) {
            oneCall();
            if (desk.left() > CALLS - call) {
                oneLook();
            }
            if (chance(SIGHTS) || call == CALLS) {
                lookAtAll();
            }
        }
        for (int s = 1; s <= 7; s++) {
            ends[model.code(s)]++;
        }
    }

    /** The answer that both give; what changes something is kept, to be done again on other objects. */
    private int both(String what, ToIntFunction<Face> call) {
        calls.add(call);
        return compared(what, call);
    }

    private int compared(String what, ToIntFunction<Face> call) {
        int due = call.applyAsInt(model);
        int got = call.applyAsInt(desk);
        if (got != due) {
            Check.same(run + what, got, due);
        }
        return due;
    }

    private void lookAtAll() {
        Sight due = new Sight(() -> model);
        Sight got = new Sight(() -> {
            Desk again = new Desk();
            calls.forEach(call -> call.applyAsInt(again));
            return again;
        });
        for (String change : got.since(due)) {
            String name = change.substring(0, change.indexOf('='));
            Check.told(run + "after " + calls.size() + " calls, not due is " + change + ", due is " + due.get(name));
        }
    }

    private void setFields() {
        boolean deep = chance(30);
        for (int k = 0; k < 30; k++) {
            int type = random.nextInt(4);
            int number = chance(70) ? 1 + random.nextInt(5) : random.nextInt(17);
            int kind = deep && chance(50) ? 4 + random.nextInt(4) : random.nextInt(10) - 2;
            boolean repeated = random.nextBoolean();
            if (both("field", x -> x.field(type, number, kind, repeated) ? 1 : 0) == 1) {
                kinds[type][number] = kind + 1;
                repeats[type][number] = repeated;
            }
        }
    }

    private void oneCall() {
        int s = chance(95) ? 1 + random.nextInt(7) : random.nextInt(12) - 2;
        int dice = random.nextInt(100);
        if (dice < 75) {
            feed();
        } else if (dice < 83) {
            int n = chance(80) ? 1 + random.nextInt(100) : random.nextInt(300) - 10;
            int of = chance(40) ? 0 : s;
            both("grant", x -> x.grant(of, n));
        } else if (dice < 93) {
            both("answer", x -> x.answer(s));
        } else if (dice < 95) {
            both("finish", x -> x.finish(s) ? 1 : 0);
        } else if (dice < 96) {
            int code = random.nextInt(120);
            both("cancel", x -> x.cancel(s, code) ? 1 : 0);
        } else if (dice < 97) {
            both("field", x -> x.field(1, 1, 1, true) ? 1 : 0);
        } else if (dice < 99 && chance(50)) {
            lookAtAll();
            both("drain", Face::drain);
        }
    }

    /** One look of any kind, at places that are there and at others. */
    private void oneLook() {
        int s = random.nextInt(11) - 2;
        int node = chance(80) ? random.nextInt(4) : random.nextInt(20) - 2;
        int number = chance(80) ? 1 + random.nextInt(5) : random.nextInt(20) - 2;
        int i = random.nextInt(4) - 1;
        int k = random.nextInt(chance(80) ? 5 : 1204) - 2;
        List<ToIntFunction<Face>> looks = List.of(x -> x.state(s), x -> x.code(s), x -> x.window(s, true),
                x -> x.window(s, false), x -> x.header(s, k), x -> x.table(k), x -> x.messages(s), x -> x.nodes(s),
                x -> x.typeOf(s, node), x -> x.many(s, node, number), x -> x.value(s, node, number, i),
                x -> x.byteOf(s, node, number, i, k), x -> x.skipped(s), x -> x.size(s), x -> x.out(k));
        int which = random.nextInt(looks.size());
        String at = " at " + List.of(s, node, number, i, k);
        compared("look " + which + at, looks.get(which));
    }

    private void feed() {
        while (line.size() < 4) {
            addFrame();
        }
        int n = chance(1) ? random.nextInt(8) - 1 : 1 + random.nextInt(4);
        int bytes = 0;
        for (int k = 0; k < n && k < 4; k++) {
            bytes |= line.peekFirst() << (8 * k);
            if (n <= 4) {
                line.removeFirst();
            }
        }
        int row = bytes;
        both("feed", x -> x.feed(row, n));
    }

    private void addFrame() {
        int s = 1 + random.nextInt(1 + random.nextInt(7));
        for (int k = 0; k < 3 && model.state(s) != 1 && chance(80); k++) {
            s = 1 + random.nextInt(7);
        }
        int state = model.state(s);
        int dice = random.nextInt(100);
        if (chance(wildness) && chance(5)) {
            frame(random.nextInt(8), random.nextInt(4), random.nextInt(9), noise(random.nextInt(5)));
        } else if (chance(wildness) && chance(3)) {
            frame(random.nextInt(chance(80) ? 6 : 256), random.nextInt(256), random.nextInt(9), noise(random.nextInt(70)));
        } else if (state == 0) {
            openOne(s);
        } else if (dice < 75) {
            addData(s);
        } else if (dice < 88) {
            frame(3, 0, chance(50) ? 0 : s, chance(97) ? 1 + random.nextInt(60) : random.nextInt(256));
        } else if (dice < 91) {
            frame(4, random.nextInt(4), 0, random.nextInt(256));
        } else if (dice < 93) {
            frame(1, chance(80) ? 1 : 0, s, headerRow(0));
        } else if (dice < 94) {
            frame(2, 0, s, random.nextInt(256));
        } else if (dice < 96) {
            frame(5 + random.nextInt(4), random.nextInt(4), random.nextInt(8), noise(random.nextInt(6)));
        }
    }

    private void openOne(int above) {
        int s = above;
        while (s > 1 && model.state(s - 1) == 0 && chance(90)) {
            s--;
        }
        for (int t = s + 1; t <= 7; t++) {
            if (model.state(t) != 0 && !chance(wildness)) {
                return;
            }
        }
        types[s] = random.nextInt(4);
        frame(1, chance(5) ? 1 : 0, s, headerRow(chance(97) ? 1 : 0, types[s]));
    }

    private int[] headerRow(int typed, int... type) {
        List<Integer> row = new ArrayList<>();
        for (int k = random.nextInt(4); k > 0; k--) {
            addHeader(row);
        }
        if (typed == 1) {
            row.addAll(random.nextBoolean() ? List.of(129 + type[0]) : List.of(65, type[0]));
        }
        for (int k = random.nextInt(6); k > 0; k--) {
            addHeader(row);
        }
        return row.stream().mapToInt(b -> b).limit(chance(wildness) ? random.nextInt(10) : 60).toArray();
    }

    private void addHeader(List<Integer> row) {
        int dice = random.nextInt(100);
        boolean entry = model.table(0) >= 0;
        if (dice < 25) {
            row.add(66 + random.nextInt(62));
            row.add(random.nextInt(256));
        } else if (dice < 45) {
            row.addAll(List.of(chance(50) ? 64 : 0, 2 + random.nextInt(254), random.nextInt(256)));
        } else if (dice < 60) {
            row.add(2 + random.nextInt(30));
            row.add(random.nextInt(256));
        } else if (dice < 70) {
            row.add(32 + (chance(80) ? 4 + random.nextInt(13) : random.nextInt(17)));
        } else if (entry && chance(90)) {
            row.add(133 + (chance(90) ? 0 : random.nextInt(6)));
        } else if (chance(wildness)) {
            row.add(random.nextInt(256));
        }
    }

    private void addData(int s) {
        ArrayDeque<Integer> rest = coming.get(s);
        if (rest.isEmpty()) {
            List<Integer> body = message(types[s], 0, chance(30) ? 200 : 40);
            boolean long8 = chance(wildness) && chance(20);
            rest.add(chance(wildness) && chance(20) ? 1 : 0);
            rest.add(long8 ? random.nextInt(3) : body.size() / 256);
            rest.add(long8 ? 195 + random.nextInt(12) : body.size() % 256);
            rest.addAll(body);
        }
        int room = Math.min(model.window(s, false), model.window(0, false));
        int n = Math.min(63, Math.min(rest.size(), 1 + random.nextInt(chance(50) ? 60 : 8)));
        if (!chance(wildness) || chance(90)) {
            n = Math.min(n, room);
        }
        int[] payload = new int[n];
        for (int k = 0; k < n; k++) {
            payload[k] = rest.removeFirst();
        }
        frame(0, rest.isEmpty() && chance(5) || chance(1) ? 1 : 0, s, payload);
    }

    private List<Integer> message(int type, int depth, int most) {
        List<Integer> all = new ArrayList<>();
        int count = random.nextInt(chance(20) ? 40 : 7);
        for (int k = 0; k < count; k++) {
            List<Integer> element = element(type, depth, most - all.size());
            if (all.size() + element.size() <= most) {
                all.addAll(element);
            }
        }
        if (chance(wildness) && !all.isEmpty()) {
            all.set(random.nextInt(all.size()), random.nextInt(256));
        }
        if (chance(wildness) && chance(10) && all.size() > 1) {
            return new ArrayList<>(all.subList(0, random.nextInt(all.size())));
        }
        return all;
    }

    private List<Integer> element(int type, int depth, int most) {
        int number = chance(80) ? 1 + random.nextInt(5) : 1 + random.nextInt(20);
        int kind = number > 15 ? -1 : kinds[type][number] - 1;
        int wire = kind < 0 || chance(5) ? List.of(0, 1, 2, 5).get(random.nextInt(4)) : kind < 2 ? 0 : kind == 2 ? 5 : 2;
        boolean row = kind >= 0 && kind < 3 && repeats[type][number] && chance(50);
        List<Integer> all = varint(8L * number + (row ? 2 : wire));
        if (row) {
            List<Integer> numbers = new ArrayList<>();
            for (int k = random.nextInt(chance(10) ? 50 : 6); k > 0; k--) {
                numbers.addAll(kind == 2 ? bytes(4) : number());
            }
            all.addAll(varint(numbers.size()));
            all.addAll(numbers);
        } else if (wire == 0) {
            all.addAll(number());
        } else if (wire == 2) {
            boolean part = kind >= 4 && depth < 5;
            List<Integer> body = part ? message(kind - 4, depth + 1, Math.max(0, most - 3)) : bytes(random.nextInt(6));
            all.addAll(varint(body.size()));
            all.addAll(body);
        } else {
            all.addAll(bytes(wire == 1 ? 8 : 4));
        }
        return all;
    }

    private List<Integer> number() {
        long n = chance(60) ? random.nextInt(300) : chance(50) ? random.nextInt() : random.nextLong();
        return varint(n);
    }

    /** Sometimes longer than it need be. */
    private List<Integer> varint(long n) {
        List<Integer> all = Model.varint(n);
        for (int k = chance(3) ? random.nextInt(10) : 0; k > 0 && (all.size() < 10 || chance(wildness)); k--) {
            all.set(all.size() - 1, all.get(all.size() - 1) | 128);
            all.add(0);
        }
        return all;
    }

    private List<Integer> bytes(int n) {
        List<Integer> all = new ArrayList<>();
        for (int k = 0; k < n; k++) {
            all.add(random.nextInt(256));
        }
        return all;
    }

    private int[] noise(int n) {
        return random.ints(n, 0, 256).toArray();
    }

    private void frame(int sort, int flags, int stream, int... payload) {
        line.addAll(List.of(payload.length, sort, flags, stream));
        for (int b : payload) {
            line.add(b);
        }
    }
}
