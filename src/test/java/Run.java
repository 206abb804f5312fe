import java.util.ArrayList;
import java.util.Arrays;
import java.util.List;
import java.util.function.ToIntFunction;

/** A row of calls that can be made on any number of new objects. It does not change: each call more is a new row. */
final class Run {
    static final int DATA = 0, HEADERS = 1, RESET = 2, WINDOW = 3, PING = 4, AWAY = 5;
    static final int END = 1;

    private final List<ToIntFunction<Face>> calls;
    private Sight sight;

    Run() {
        this(List.of());
    }

    private Run(List<ToIntFunction<Face>> calls) {
        this.calls = calls;
    }

    private Run and(ToIntFunction<Face> call) {
        List<ToIntFunction<Face>> more = new ArrayList<>(calls);
        more.add(call);
        return new Run(more);
    }

    int length() {
        return calls.size();
    }

    /** A new object on which all calls have been made. */
    Desk desk() {
        Desk desk = new Desk();
        calls.forEach(call -> call.applyAsInt(desk));
        return desk;
    }

    /** What the last call answers. */
    int last() {
        Desk desk = new Desk();
        int answer = 0;
        for (ToIntFunction<Face> call : calls) {
            answer = call.applyAsInt(desk);
        }
        return answer;
    }

    /** The bytes that OUT has. */
    int[] out() {
        Desk desk = desk();
        int[] all = new int[desk.out(-1)];
        for (int k = 0; k < all.length; k++) {
            desk = desk.left() == 0 ? desk() : desk;
            all[k] = desk.out(k);
        }
        return all;
    }

    Sight sight() {
        if (sight == null) {
            sight = new Sight(this::desk);
        }
        return sight;
    }

    Run field(int type, int number, int kind, boolean repeated) {
        return and(x -> x.field(type, number, kind, repeated) ? 1 : 0);
    }

    Run feed(int bytes, int n) {
        return and(x -> x.feed(bytes, n));
    }

    Run grant(int s, int n) {
        return and(x -> x.grant(s, n));
    }

    Run answer(int s) {
        return and(x -> x.answer(s));
    }

    Run finish(int s) {
        return and(x -> x.finish(s) ? 1 : 0);
    }

    Run cancel(int s, int code) {
        return and(x -> x.cancel(s, code) ? 1 : 0);
    }

    Run drain() {
        return and(Face::drain);
    }

    /** Bytes by fours, what is left over at the end. */
    Run bytes(int... all) {
        Run run = this;
        for (int at = 0; at < all.length; at += 4) {
            int n = Math.min(4, all.length - at);
            run = run.feed(Line.together(all, at, n), n);
        }
        return run;
    }

    Run frame(int sort, int flags, int stream, int... payload) {
        return bytes(Line.join(Line.row(payload.length, sort, flags, stream), payload));
    }

    Run data(int stream, int... payload) {
        return frame(DATA, 0, stream, payload);
    }

    /** Opens a stream of a type by one of the headers that are given. */
    Run open(int stream, int type) {
        return frame(HEADERS, 0, stream, 129 + type);
    }

    /** A whole message in as many frames as it needs, each with the room granted that it takes. */
    Run message(int stream, int... body) {
        int[] all = Line.join(Line.row(0, body.length >> 8, body.length & 255), body);
        Run run = this;
        for (int at = 0; at < all.length; at += 60) {
            int[] part = Arrays.copyOfRange(all, at, Math.min(all.length, at + 60));
            run = run.room(0, part.length).room(stream, part.length).data(stream, part);
        }
        return run;
    }

    private Run room(int s, int n) {
        return desk().window(s, false) < n ? grant(s, 100) : this;
    }

    /**
     * That the last call of this run answers so, and that all looks answer as before those of its calls that the
     * other run has not, but for the changes, each told as name=text.
     */
    void since(Run before, String what, int answer, String... changes) {
        Check.same(what + ": the last call", last(), answer);
        List<String> got = sight().since(before.sight());
        List<String> due = Arrays.asList(changes);
        for (String change : got) {
            if (!due.contains(change)) {
                Check.told(what + ": not due is " + change);
            }
        }
        for (String change : due) {
            if (!got.contains(change)) {
                String name = change.substring(0, change.indexOf('='));
                Check.told(what + ": due is " + change + ", it is " + sight().get(name));
            }
        }
    }
}
