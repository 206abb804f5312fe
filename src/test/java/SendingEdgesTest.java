import java.util.Arrays;

/** The sentences on sending, the queues, ends of this side and OUT, each at its edges. */
public final class SendingEdgesTest extends Edges {
    /** Streams 1 to 7 are OPEN; their type has BYTES 1; what may come in is 255 for the connection. */
    private static final Run SEVEN = openSeven();

    public static void main(String[] args) {
        queueOf500();
        piecesOf16();
        windowOfTheStream();
        windowOfTheConnection();
        bothWindows();
        nextBehindTheLast();
        endsWithBytes();
        endsWithoutBytes();
        outOf1200();
        drains();
        Check.end();
    }

    private static Run openSeven() {
        Run run = new Run().field(0, 1, 3, false);
        for (int s = 1; s <= 7; s++) {
            run = run.open(s, 0);
        }
        return run.grant(0, 155).drain();
    }

    /** A message whose answer puts so many bytes (5 or more) into the queue. */
    private static Run latest(Run run, int s, int bytes) {
        return run.message(s, Arrays.copyOfRange(answerOf(s, bytes), 3, bytes));
    }

    /** The bytes that this answer puts into the queue; all but the first ones are the stream's number. */
    private static int[] answerOf(int s, int bytes) {
        int text = bytes - 5 < 128 ? bytes - 5 : bytes - 6;
        int[] length = text < 128 ? row(text) : row(text, 1);
        return join(row(0, 0, bytes - 3, 10), length, times(text, s));
    }

    private static Run answered(Run run, int s, int bytes) {
        return latest(run, s, bytes).answer(s).drain();
    }

    private static void sends(String what, Run run, int... bytes) {
        String got = "OUT=" + run.sight().get("OUT");
        if (!got.equals(out(bytes))) {
            Check.told(what + ": due is " + out(bytes) + ", it is " + got);
        }
    }

    private static void queueOf500() {
        says("each OPEN stream has a QUEUE of at most 500 bytes");
        // The window of stream 1 is used up, so that all else waits.
        Run none = answered(SEVEN, 1, 60);
        same("the window", none.desk().window(1, true), 0);
        Run four = latest(none, 1, 100).answer(1).answer(1).answer(1).answer(1).drain();
        for (int bytes = 99; bytes <= 100; bytes++) {
            Run then = latest(four, 1, bytes).drain();
            edge("400 and " + bytes, then, then.answer(1), bytes - 3);
            Run empty = then.answer(1).message(1).drain();
            edge("and then 3 more", empty, empty.answer(1), FULL);
        }
        Run above = latest(four, 1, 101).drain();
        edge("400 and 101", above, above.answer(1), FULL);
        Run full = latest(four, 1, 100).answer(1).drain();
        edge("500 and 100", full, full.answer(1), FULL);
        edge("500 are sent when they may", full, full.frame(WINDOW, 0, 1, 5), 1, "sending(0)=35",
                out(frames(1, false, 0, 0, 97, 10, 95)));
        Run empty = full.message(1).drain();
        edge("500 and an empty message", empty, empty.answer(1), FULL);
        Run two = empty.frame(WINDOW, 0, 1, 2).drain();
        edge("498 and an empty message", two, two.answer(1), FULL);
        Run three = empty.frame(WINDOW, 0, 1, 3).drain();
        edge("497 and an empty message", three, three.answer(1), 0);
        edge("and then no more", three.answer(1), three.answer(1).answer(1), FULL);
        // The connection's window is used up too.
        Run other = latest(answered(full, 2, 40), 3, 100).drain();
        edge("another stream has its own", other, other.answer(3), 97);
    }

    private static void piecesOf16() {
        says("sends DATA: as many bytes as are there, at most 16");
        for (int bytes : new int[] {5, 15, 16, 17, 31, 32, 33, 48, 49}) {
            Run there = latest(SEVEN, 1, bytes).drain();
            edge(bytes + " bytes", there, there.answer(1), bytes - 3, out(frames(1, false, answerOf(1, bytes))),
                    "sending(0)=" + (100 - bytes), "sending(1)=" + (60 - bytes));
        }
        Run empty = SEVEN.data(1, 0, 0, 0);
        edge("3 bytes", empty, empty.answer(1), 0, "OUT=3 0 0 1 0 0 0", "sending(0)=97", "sending(1)=57");
        Run none = empty.answer(1).drain();
        edge("no bytes: nothing is sent", none, none.frame(WINDOW, 0, 1, 1), 1, "sending(1)=58");
    }

    private static void windowOfTheStream() {
        says("as long as there is a stream with bytes in its QUEUE and a window above 0");
        for (int bytes = 59; bytes <= 62; bytes++) {
            Run there = latest(SEVEN, 1, bytes).drain();
            int sent = Math.min(60, bytes);
            edge(bytes + " of 60", there, there.answer(1), bytes - 3, "sending(0)=" + (100 - sent),
                    "sending(1)=" + (60 - sent), out(frames(1, false, Arrays.copyOf(answerOf(1, bytes), sent))));
        }
        Run waits = answered(SEVEN, 1, 100);
        edge("none", waits, waits.frame(WINDOW, 0, 0, 1), 1, "sending(0)=41");
        edge("one", waits, waits.frame(WINDOW, 0, 1, 1), 1, "sending(0)=39", "OUT=1 0 0 1 1");
        edge("15", waits, waits.frame(WINDOW, 0, 1, 15), 1, "sending(0)=25", "OUT=15 0 0 1*16");
        edge("16", waits, waits.frame(WINDOW, 0, 1, 16), 1, "sending(0)=24", "OUT=16 0 0 1*17");
        edge("17", waits, waits.frame(WINDOW, 0, 1, 17), 1, "sending(0)=23", "OUT=16 0 0 1*18 0 0 1 1");
        edge("39, one too few", waits, waits.frame(WINDOW, 0, 1, 39), 1, "sending(0)=1",
                out(frames(1, false, times(39, 1))));
        edge("40, as many as wait", waits, waits.frame(WINDOW, 0, 1, 40), 1, "sending(0)=0",
                out(frames(1, false, times(40, 1))));
        edge("41, one is left", waits.frame(WINDOW, 0, 0, 9), waits.frame(WINDOW, 0, 0, 9).frame(WINDOW, 0, 1, 41), 1,
                "sending(0)=9", "sending(1)=1", out(frames(1, false, times(40, 1))));
        edge("that of another stream", waits, waits.frame(WINDOW, 0, 2, 9), 1, "sending(2)=69");
    }

    private static void windowOfTheConnection() {
        says("and the connection's window is above 0");
        Run forty = answered(SEVEN, 1, 60);
        for (int bytes = 39; bytes <= 41; bytes++) {
            Run there = latest(forty, 2, bytes).drain();
            int sent = Math.min(40, bytes);
            edge(bytes + " of 40", there, there.answer(2), bytes - 3, "sending(0)=" + (40 - sent),
                    "sending(2)=" + (60 - sent), out(frames(2, false, Arrays.copyOf(answerOf(2, bytes), sent))));
        }
        Run waits = answered(forty, 2, 60);
        edge("none", waits, waits.frame(WINDOW, 0, 2, 9), 1, "sending(2)=29");
        edge("one", waits, waits.frame(WINDOW, 0, 0, 1), 1, "sending(2)=19", "OUT=1 0 0 2 2");
        edge("16", waits, waits.frame(WINDOW, 0, 0, 16), 1, "sending(2)=4", "OUT=16 0 0 2*17");
        edge("17", waits, waits.frame(WINDOW, 0, 0, 17), 1, "sending(2)=3", "OUT=16 0 0 2*17 1 0 0 2 2");
        edge("20, as many as wait", waits, waits.frame(WINDOW, 0, 0, 20), 1, "sending(2)=0",
                out(frames(2, false, times(20, 2))));
        edge("21, one is left", waits, waits.frame(WINDOW, 0, 0, 21), 1, "sending(0)=1", "sending(2)=0",
                out(frames(2, false, times(20, 2))));
        edge("255", waits, waits.frame(WINDOW, 0, 0, 255), 1, "sending(0)=235", "sending(2)=0",
                out(frames(2, false, times(20, 2))));
    }

    private static void bothWindows() {
        says("and as both windows (which are so much less then) let");
        // Stream 1 has 40 bytes waiting for its own window, stream 2 has 60 that wait for the connection's.
        Run both = answered(answered(answered(SEVEN, 1, 100), 2, 40), 2, 60);
        same("stream 1", both.desk().window(1, true), 0);
        same("stream 2", both.desk().window(2, true), 20);
        same("the connection", both.desk().window(0, true), 0);
        int[] rest = answerOf(2, 60);
        edge("the stream's is less", both, both.frame(WINDOW, 0, 0, 30), 1, "sending(0)=10", "sending(2)=0",
                out(frames(2, false, Arrays.copyOf(rest, 20))));
        edge("the connection's is less", both, both.frame(WINDOW, 0, 0, 10), 1, "sending(2)=10",
                out(frames(2, false, Arrays.copyOf(rest, 10))));
        edge("they are the same", both, both.frame(WINDOW, 0, 0, 20), 1, "sending(2)=0",
                out(frames(2, false, Arrays.copyOf(rest, 20))));
        edge("the stream's alone", both, both.frame(WINDOW, 0, 1, 255), 1, "sending(1)=255");
    }

    private static void nextBehindTheLast() {
        says("the next such one behind the stream that sent last (1 behind 7, at first 1) sends DATA");
        for (int last = 1; last <= 7; last++) {
            // The stream behind it sends, then it does, which uses up the connection's window; 5 bytes of all wait.
            Run wait = answered(answered(SEVEN, last % 7 + 1, 55), last, 45);
            int[] ones = {};
            int[] fives = {};
            for (int k = 1; k <= 7; k++) {
                int s = (last + k - 1) % 7 + 1;
                wait = answered(wait, s, 5);
                ones = join(ones, row(1, DATA, 0, s, 0));
                fives = join(fives, row(5, DATA, 0, s), answerOf(s, 5));
            }
            same("the connection's window", wait.desk().window(0, true), 0);
            Run one = wait;
            for (int k = 1; k <= 7; k++) {
                one = one.frame(WINDOW, 0, 0, 1);
            }
            sends("one byte each, behind " + last, one, ones);
            sends("five bytes each, behind " + last, wait.frame(WINDOW, 0, 0, 35), fives);
            sends("one byte too few, behind " + last, wait.frame(WINDOW, 0, 0, 34),
                    join(Arrays.copyOf(fives, 54), row(4, DATA, 0, last), Arrays.copyOf(answerOf(last, 5), 4)));
        }
        Run none = SEVEN.data(7, 0, 0, 0).data(1, 0, 0, 0);
        edge("at first, one that is not 1", none, none.answer(7), 0, "OUT=3 0 0 7 0 0 0", "sending(0)=97",
                "sending(7)=57");
    }

    private static void endsWithBytes() {
        says("END is in the flags if the QUEUE is empty then and it is to FINISH; that side ENDED then.");
        for (int bytes : new int[] {15, 16, 17, 32}) {
            // So many bytes wait for the stream's window.
            Run waits = answered(SEVEN, 1, 60 + bytes);
            Run to = waits.finish(1);
            edge(bytes + " wait: finish sends nothing", waits, to, 1);
            edge(bytes + " wait: one too few may go", to, to.frame(WINDOW, 0, 1, bytes - 1), 1,
                    "sending(0)=" + (41 - bytes), out(frames(1, false, times(bytes - 1, 1))));
            edge(bytes + " wait: all may go", to, to.frame(WINDOW, 0, 1, bytes), 1, "state(1)=3",
                    "sending(0)=" + (40 - bytes), out(frames(1, true, times(bytes, 1))));
            edge(bytes + " wait: one more may go", to, to.frame(WINDOW, 0, 1, bytes + 1), 1, "state(1)=3",
                    "sending(1)=1", "sending(0)=" + (40 - bytes), out(frames(1, true, times(bytes, 1))));
            edge(bytes + " wait: it is not to FINISH", waits, waits.frame(WINDOW, 0, 1, bytes), 1,
                    "sending(0)=" + (40 - bytes), out(frames(1, false, times(bytes, 1))));
        }
        Run ended = answered(SEVEN, 1, 70).finish(1).frame(WINDOW, 0, 1, 20).drain();
        edge("nothing is sent behind the END", ended, ended.frame(WINDOW, 0, 1, 20), 1, "sending(1)=30");
        edge("no second finish", ended, ended.finish(1), 0);
        edge("no answer any more", ended, ended.answer(1), BAD);
        edge("the other side goes on", ended, ended.data(1, 0, 0, 0), 1, "messages(1)=2", "message(1)=0{}",
                "size(1)=0", "coming(0)=" + (ended.desk().window(0, false) - 3),
                "coming(1)=" + (ended.desk().window(1, false) - 3));
    }

    private static void endsWithoutBytes() {
        says("One that is to FINISH and has an empty QUEUE sends DATA of LENGTH 0 with END (in the same order, for "
                + "which windows do not count).");
        edge("at once", SEVEN, SEVEN.finish(4), 1, "state(4)=3", "OUT=0 0 1 4");
        Run none = answered(SEVEN, 1, 60);
        edge("with no window of the stream", none, none.finish(1), 1, "state(1)=3", "OUT=0 0 1 1");
        Run all = answered(none, 2, 40);
        edge("with no window at all", all, all.finish(1), 1, "state(1)=3", "OUT=0 0 1 1");
        edge("with no window of the connection", all, all.finish(2), 1, "state(2)=3", "OUT=0 0 1 2");
        edge("which changes no window", all, all.finish(7), 1, "state(7)=3", "OUT=0 0 1 7");
        // Bytes of 3 and 6 wait for the connection's window; 2 sent last, so 3 would be the next one.
        Run wait = answered(answered(all, 3, 5), 6, 5);
        edge("the next one without it", wait, wait.frame(WINDOW, 0, 0, 1), 1, "sending(3)=59", "OUT=1 0 0 3 0");
        Run then = wait.finish(4).drain();
        edge("the next one behind it", then, then.frame(WINDOW, 0, 0, 1), 1, "sending(6)=59", "OUT=1 0 0 6 0");
    }

    /** PINGs that fill OUT with five bytes each. */
    private static Run pings(Run run, int n) {
        return run.bytes(times(n, 1, PING, 0, 0, 9));
    }

    private static void outOf1200() {
        says("OUT has the bytes that are sent, the first 1200; more are lost.");
        Run open = new Run().field(0, 1, 3, false).open(1, 0).open(2, 0).open(3, 0).data(1, 0, 0, 0);
        int[] all = times(239, 1, 4, 1, 0, 9);
        Run most = pings(open, 239);
        edge("1195", open, most, 1, out(all));
        edge("1199", most, most.finish(2), 1, "state(2)=3", out(all, row(0, 0, 1, 2)));
        edge("1200", most, most.cancel(2, 20), 1, "state(2)=4", "code(2)=20", out(all, row(1, 2, 0, 2, 20)));
        edge("1202, of which two are lost", most, most.answer(1), 0, "sending(0)=97", "sending(1)=57",
                out(all, row(3, 0, 0, 1, 0)));
        Run one = most.finish(2);
        edge("1204, of which four are lost", one, one.grant(1, 5), 62, "coming(1)=62",
                out(all, row(0, 0, 1, 2, 1)));
        Run full = most.cancel(2, 20);
        edge("a frame that is lost", full, full.finish(3), 1, "state(3)=3");
        edge("an error of a stream that is lost", full, full.cancel(3, 99), 1, "state(3)=4", "code(3)=99");
        edge("bytes that are lost", full, full.answer(1), 0, "sending(0)=97", "sending(1)=57");
        edge("an error of the connection that is lost", full, full.bytes(0, PING, 0, 0), DOWN, "state(0)=4",
                "code(0)=1");
        Run empty = full.drain();
        edge("drain", full, empty, 1200, "OUT=");
        edge("there is room again", empty, empty.cancel(3, 21), 1, shut(3, 21));
        edge("what was lost does not come", full, full.finish(3).drain(), 1200, "state(3)=3", "OUT=");
        Desk desk = full.desk();
        same("out -1", desk.out(-1), 1200);
        same("out 1199", desk.out(1199), 20);
        same("out 1200", desk.out(1200), -1);
        same("out 1201", desk.out(1201), -1);
    }

    private static void drains() {
        says("How many bytes OUT has; it is empty then.");
        edge("none", SEVEN, SEVEN.drain(), 0);
        Run one = SEVEN.finish(1);
        edge("four", one, one.drain(), 4, "OUT=");
        edge("and then none", one, one.drain().drain(), 0, "OUT=");
        Run down = SEVEN.bytes(64, 0, 0, 0);
        edge("when the connection is DOWN", down, down.drain(), 5, "OUT=");
    }
}
