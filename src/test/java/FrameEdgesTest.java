/** The sentences on frames, streams and their errors, each at its edges and with all that looks answer then. */
public final class FrameEdgesTest extends Edges {
    /** Stream 2 is SHUT with code 107, streams 3 and 5 are OPEN, all others are IDLE. */
    private static final Run SOME = new Run().open(2, 0).open(3, 0).open(5, 1).frame(RESET, 0, 2, 7).drain();
    /** As above; stream 7 is OPEN too. */
    private static final Run SEVEN = SOME.open(7, 0).drain();

    public static void main(String[] args) {
        framesOfEachLength();
        oddFlags();
        otherSorts();
        streamsFromOneToSeven();
        downForGood();
        errorOfAStream();
        lengthAbove63();
        streamAbove7();
        dataOfNoStream();
        windowOfTheConnection();
        dataOfOneThatIsShut();
        dataBehindTheEnd();
        windowOfTheStream();
        headersOfOneThatWasPassed();
        lengthThatIsNotOne();
        wrongStreams();
        away();
        resets();
        windowsOfOnesThatAreShut();
        windowsAtTheirMost();
        windowsOfZero();
        pings();
        Check.end();
    }

    private static void framesOfEachLength() {
        says("FRAMES are a LENGTH, a SORT, FLAGS (1: END) and a STREAM, a byte each, and LENGTH bytes of PAYLOAD.");
        edge("three bytes of a head", SOME, SOME.bytes(0, 5, 0), 0);
        edge("LENGTH 0 ends with its head", SOME, SOME.bytes(0, 5, 0, 0), 1);
        edge("LENGTH 1 does not", SOME, SOME.bytes(1, 4, 0, 0), 0);
        edge("but with the byte behind it", SOME, SOME.bytes(1, 4, 0, 0, 9), 1, "OUT=1 4 1 0 9");
        Run most = SOME.frame(AWAY, 0, 0, times(62, 5)).bytes(63, 5, 0, 0).bytes(times(60, 5)).bytes(1, 1);
        edge("62 bytes of 63", SOME, most, 0);
        edge("63 bytes of 63", SOME, most.bytes(1), 1);
        edge("the next frame begins behind it", SOME, most.bytes(1).bytes(1, 4, 0, 0).bytes(7), 1, "OUT=1 4 1 0 7");
        edge("a frame, and three bytes of the next one", SOME, SOME.bytes(1, 4, 0, 0).bytes(8, 1, 4, 0), 1,
                "OUT=1 4 1 0 8");
    }

    private static void oddFlags() {
        says("FLAGS have END if they are odd; what else is in them counts for nothing.");
        for (int flags : new int[] {0, 2, 4, 128, 254}) {
            edge("DATA with " + flags, SOME, SOME.frame(DATA, flags, 3), 1);
            edge("HEADERS with " + flags, SOME, SOME.frame(HEADERS, flags, 3), 1, shut(3, 2));
            edge("PING with " + flags, SOME, SOME.frame(PING, flags, 0, 6), 1, "OUT=1 4 1 0 6");
        }
        for (int flags : new int[] {1, 3, 129, 255}) {
            edge("DATA with " + flags, SOME, SOME.frame(DATA, flags, 3), 1, "state(3)=2");
            edge("HEADERS with " + flags, SOME, SOME.frame(HEADERS, flags, 3), 1, "state(3)=2");
            edge("HEADERS of an IDLE one with " + flags, SOME, SOME.frame(HEADERS, flags, 6, 129), 1,
                    "state(6)=2", "headers(6)=256", "coming(6)=60", "sending(6)=60");
            edge("PING with " + flags, SOME, SOME.frame(PING, flags, 0, 6), 1);
            edge("RESET with " + flags, SOME, SOME.frame(RESET, flags, 3, 6), 1, "state(3)=4", "code(3)=106");
            edge("WINDOW with " + flags, SOME, SOME.frame(WINDOW, flags, 3, 6), 1, "sending(3)=66");
        }
    }

    private static void otherSorts() {
        says("Sorts: 0 DATA  1 HEADERS  2 RESET  3 WINDOW  4 PING  5 AWAY; others count for nothing.");
        for (int sort : new int[] {6, 7, 128, 255}) {
            for (int stream : new int[] {0, 2, 3, 4, 7, 8, 255}) {
                for (int length : new int[] {0, 1, 63}) {
                    edge("sort " + sort + " of stream " + stream + ", LENGTH " + length, SOME,
                            SOME.frame(sort, END, stream, times(length, 129)), 1);
                }
            }
        }
    }

    private static void streamsFromOneToSeven() {
        says("STREAMS are 1..7: IDLE at first, then OPEN, at last SHUT; 0 is the CONNECTION.");
        Run none = new Run();
        for (int s = 1; s <= 7; s++) {
            Run open = none.open(s, 0);
            edge("stream " + s + " OPEN", none, open, 1, "state(" + s + ")=1", "headers(" + s + ")=256",
                    "coming(" + s + ")=60", "sending(" + s + ")=60");
            edge("stream " + s + " SHUT", open, open.frame(RESET, 0, s, 0), 1, "state(" + s + ")=4",
                    "code(" + s + ")=100");
            Run shut = open.frame(RESET, 0, s, 0);
            edge("stream " + s + " does not open again", shut, shut.open(s, 1), 1);
        }
        edge("HEADERS of 0", none, none.bytes(1, HEADERS, 0, 0), DOWN, down(2));
        edge("HEADERS of 8", none, none.bytes(1, HEADERS, 0, 8), DOWN, down(2));
    }

    private static void downForGood() {
        says("it is DOWN from then on, (1, 5, 0, 0, c) is sent, and nothing else comes in or goes out any more");
        // Streams 1 and 2 have bytes in their queues, 2 is to finish, 3 has half a message, of 4 the other side ENDED.
        Run busy = new Run().field(0, 1, 3, false).open(1, 0).open(2, 0).open(3, 0).open(4, 0)
                .message(1, join(row(10, 95), times(95, 6))).answer(1).message(2, join(row(10, 38), times(38, 6)))
                .answer(2).finish(2).data(3, 0, 0, 2, 10).frame(DATA, END, 4).drain();
        Run down = busy.bytes(2, PING, 0, 0).drain();
        edge("the error", busy, busy.bytes(2, PING, 0, 0), DOWN, down(1));
        edge("WINDOW of the connection", down, down.frame(WINDOW, 0, 0, 100), DOWN);
        edge("WINDOW of a stream", down, down.frame(WINDOW, 0, 1, 100), DOWN);
        edge("PING", down, down.frame(PING, 0, 0, 1), DOWN);
        edge("RESET", down, down.frame(RESET, 0, 1, 1), DOWN);
        edge("HEADERS that open", down, down.open(5, 0), DOWN);
        edge("HEADERS with a new entry", down, down.frame(HEADERS, END, 1, 66, 1, 35), DOWN);
        edge("the rest of a message", down, down.data(3, 0), DOWN);
        edge("an END", down, down.frame(DATA, END, 1), DOWN);
        edge("a second error", down, down.bytes(64, 0, 0, 0), DOWN);
        edge("grant", down, down.grant(0, 1), DOWN);
        edge("grant to a stream", down, down.grant(1, 1), DOWN);
        edge("answer", down, down.answer(1), DOWN);
        edge("finish", down, down.finish(1), 0);
        edge("cancel", down, down.cancel(1, 20), 0);
        edge("drain of what it sent last", busy, busy.bytes(2, PING, 0, 0).drain(), 5, "state(0)=4", "code(0)=1");
    }

    private static void errorOfAStream() {
        says("it is SHUT, with this code, its QUEUE is empty, and (1, 2, 0, s, c) is sent; "
                + "what is left of the payload counts for nothing");
        // The window for sending is used up, and 45 bytes wait.
        Run waits = new Run().field(0, 1, 3, false).open(1, 0).message(1, join(row(10, 100), times(100, 6))).answer(1)
                .drain();
        same("all of the window is used", waits.desk().window(1, true), 0);
        edge("bytes wait", waits, waits.frame(WINDOW, 0, 1, 1), 1, "sending(0)=39", "OUT=1 0 0 1 6");
        int in = waits.desk().window(1, false);
        int all = waits.desk().window(0, false);
        Run wrong = waits.bytes(10, DATA, END, 1).bytes(1);
        edge("the error", waits, wrong, 0, shut(1, 7, "coming(1)=" + (in - 10), "coming(0)=" + (all - 10)));
        edge("what is left of the payload", wrong, wrong.bytes(0, 0, 0, 0).bytes(0, 0, 2, 8).bytes(3), 1);
        Run then = wrong.bytes(0, 0, 0, 0).bytes(0, 0, 2, 8).bytes(3).drain();
        edge("its QUEUE is empty", then, then.frame(WINDOW, 0, 0, 100), 1, "sending(0)=140");
        edge("by cancel", SOME, SOME.cancel(3, 20), 1, shut(3, 20));
    }

    private static void lengthAbove63() {
        says("LENGTH above 63 is the ERROR for every sort, also one above 5.");
        for (int sort : new int[] {0, 1, 2, 3, 4, 5, 6, 255}) {
            edge("three bytes of sort " + sort, SOME, SOME.bytes(64, sort, 0), 0);
            edge("64 of sort " + sort, SOME, SOME.bytes(64, sort, 0, 3), DOWN, down(1));
            edge("65 of sort " + sort, SOME, SOME.bytes(65, sort, 0, 0), DOWN, down(1));
            edge("255 of sort " + sort, SOME, SOME.bytes(255, sort, 0, 4), DOWN, down(1));
            edge("64 goes before the STREAM, of sort " + sort, SOME, SOME.bytes(64, sort, 0, 8), DOWN, down(1));
        }
        Run wide = SOME.grant(3, 100).drain();
        edge("63 of DATA", wide, wide.data(3, anyData(63)), 1, "coming(3)=97", "coming(0)=37");
        edge("63 of HEADERS", SOME, SOME.frame(HEADERS, END, 3, times(63, 48)), 1, "state(3)=2");
        edge("63 of AWAY", SOME, SOME.frame(AWAY, 0, 0, times(63, 1)), 1);
        edge("63 of sort 6", SOME, SOME.frame(6, 0, 0, times(63, 1)), 1);
        edge("62 of sort 255", SOME, SOME.frame(255, 0, 0, times(62, 1)), 1);
    }

    private static void streamAbove7() {
        says("a STREAM above 7 of sorts 0..5 one, 2");
        for (int sort = 0; sort <= 5; sort++) {
            for (int stream : new int[] {8, 9, 128, 255}) {
                edge(stream + " of sort " + sort, SEVEN, SEVEN.bytes(1, sort, 0, stream), DOWN, down(2));
                // LENGTH 0 would be another error of RESET, WINDOW and PING.
                edge(stream + " of sort " + sort + ", LENGTH 0", SEVEN, SEVEN.bytes(0, sort, 0, stream), DOWN, down(2));
            }
        }
        edge("7 of DATA", SEVEN, SEVEN.data(7), 1);
        edge("7 of HEADERS", SEVEN, SEVEN.frame(HEADERS, END, 7), 1, "state(7)=2");
        edge("7 of RESET", SEVEN, SEVEN.frame(RESET, 0, 7, 1), 1, "state(7)=4", "code(7)=101");
        edge("7 of WINDOW", SEVEN, SEVEN.frame(WINDOW, 0, 7, 1), 1, "sending(7)=61");
        edge("7 of AWAY", SEVEN, SEVEN.frame(AWAY, 0, 7), 1);
        edge("8 of sort 6", SEVEN, SEVEN.frame(6, 0, 8, 1), 1);
        edge("255 of sort 6", SEVEN, SEVEN.frame(6, 0, 255), 1);
    }

    private static void dataOfNoStream() {
        says("DATA: STREAM 0 or IDLE: 2, of the CONNECTION.");
        for (int stream : new int[] {0, 1, 4, 6, 7}) {
            for (int length : new int[] {0, 1, 63}) {
                edge("DATA of " + stream, SOME, SOME.bytes(length, DATA, 0, stream), DOWN, down(2));
            }
        }
        // The connection's window is less than the LENGTH, which is looked at later.
        Run little = SOME.data(3, anyData(60)).drain();
        edge("before the window", little, little.bytes(41, DATA, 0, 4), DOWN, down(2));
        edge("before the window, of 0", little, little.bytes(41, DATA, 0, 0), DOWN, down(2));
        edge("of one that is OPEN", SOME, SOME.data(3), 1);
        edge("of one that is SHUT", SOME, SOME.data(2), 1);
    }

    private static void windowOfTheConnection() {
        says("A LENGTH above the connection's window: 3, of the CONNECTION; else that is so much less.");
        Run wide = SOME.grant(3, 195).drain();
        Run forty = wide.data(3, anyData(60)).drain();
        edge("60 of 100", wide, forty, 0, "coming(0)=40", "coming(3)=195");
        edge("one below", forty, forty.bytes(39, DATA, 0, 3), 0, "coming(0)=1", "coming(3)=156");
        edge("all of it", forty, forty.bytes(40, DATA, 0, 3), 0, "coming(0)=0", "coming(3)=155");
        edge("one above", forty, forty.bytes(41, DATA, 0, 3), DOWN, down(3));
        Run none = forty.data(3, times(40, 0));
        edge("0 when there is none", none, none.data(3), 1);
        edge("1 when there is none", none, none.bytes(1, DATA, 0, 3), DOWN, down(3));
        edge("of one that is SHUT: all of it", forty, forty.bytes(40, DATA, 0, 2), 0, "coming(0)=0");
        edge("of one that is SHUT: one above", forty, forty.bytes(41, DATA, 0, 2), DOWN, down(3));
        Run ended = forty.frame(DATA, END, 5);
        edge("of one that ENDED: all of it", ended, ended.bytes(40, DATA, 0, 5), 0, shut(5, 5, "coming(0)=0"));
        edge("of one that ENDED: one above", ended, ended.bytes(41, DATA, 0, 5), DOWN, down(3));
        // Stream 5 has a window of 60, which is above too.
        Run both = SOME.data(3, anyData(38)).drain();
        edge("above the stream's window: all of it", both, both.bytes(62, DATA, 0, 5), 0, shut(5, 3, "coming(0)=0"));
        edge("above both windows", both, both.bytes(63, DATA, 0, 5), DOWN, down(3));
        Run most = SOME.grant(0, 155).drain();
        edge("of 255", most, most.bytes(60, DATA, 0, 3), 0, "coming(0)=195", "coming(3)=0");
    }

    private static void dataOfOneThatIsShut() {
        says("SHUT: the payload counts for nothing");
        int[] whole = {0, 0, 0};
        edge("by a RESET", SOME, SOME.frame(DATA, END, 2, whole), 1, "coming(0)=97");
        Run both = SOME.frame(DATA, END, 3).finish(3).drain();
        edge("by both ends", both, both.frame(DATA, END, 3, whole), 1, "coming(0)=97");
        Run cancelled = SOME.cancel(3, 99).drain();
        edge("by cancel", cancelled, cancelled.frame(DATA, END, 3, whole), 1, "coming(0)=97");
        Run wrong = SOME.data(3, 1).drain();
        edge("by an error", wrong, wrong.frame(DATA, END, 3, whole), 1, "coming(0)=96");
        edge("with a LENGTH above its window", SOME, SOME.frame(DATA, 0, 2, times(61, 1)), 1, "coming(0)=39");
        edge("with a LENGTH of 0", SOME, SOME.frame(DATA, END, 2), 1);
    }

    private static void dataBehindTheEnd() {
        says("the other side ENDED: 5, of the stream");
        Run ended = SOME.frame(DATA, END, 3).drain();
        edge("LENGTH 0", ended, ended.data(3), 1, shut(3, 5));
        edge("LENGTH 0 with END again", ended, ended.frame(DATA, END, 3), 1, shut(3, 5));
        edge("LENGTH 1, at its head", ended, ended.bytes(1, DATA, 0, 3), 0, shut(3, 5, "coming(0)=99"));
        edge("LENGTH 61, which is above the window too", ended, ended.bytes(61, DATA, 0, 3), 0,
                shut(3, 5, "coming(0)=39"));
        Run open = SOME.frame(HEADERS, END, 6, 129).drain();
        edge("when HEADERS had the END", open, open.data(6, 0), 1, shut(6, 5, "coming(0)=99"));
        Run ours = SOME.finish(3).drain();
        edge("when this side alone ENDED", ours, ours.data(3, 0, 0, 0), 1, "coming(0)=97", "coming(3)=57",
                "messages(3)=1", "message(3)=0{}");
    }

    private static void windowOfTheStream() {
        says("LENGTH above the stream's window: 3, of the stream; else that is so much less.");
        edge("one below", SOME, SOME.bytes(59, DATA, 0, 3), 0, "coming(0)=41", "coming(3)=1");
        edge("all of it", SOME, SOME.bytes(60, DATA, 0, 3), 0, "coming(0)=40", "coming(3)=0");
        edge("one above", SOME, SOME.bytes(61, DATA, 0, 3), 0, shut(3, 3, "coming(0)=39"));
        Run above = SOME.bytes(61, DATA, 0, 3);
        edge("its payload", above, above.bytes(times(61, 0)), 1);
        Run none = SOME.data(3, anyData(60));
        edge("0 when there is none", none, none.data(3), 1);
        edge("1 when there is none", none, none.bytes(1, DATA, 0, 3), 0, shut(3, 3, "coming(0)=39"));
        Run again = none.grant(3, 1).drain();
        edge("1 when 1 was granted", again, again.data(3, 0), 1, "coming(0)=39", "coming(3)=0");
        edge("2 when 1 was granted", again, again.data(3, 0, 0), 1, shut(3, 3, "coming(0)=38"));
    }

    private static void headersOfOneThatWasPassed() {
        says("HEADERS: STREAM 0, or one that is IDLE and less than one that is not: 2, of the CONNECTION.");
        edge("0", SOME, SOME.bytes(1, HEADERS, 0, 0), DOWN, down(2));
        edge("1, IDLE, less than 2, which is SHUT", SOME, SOME.bytes(1, HEADERS, 0, 1), DOWN, down(2));
        edge("4, IDLE, less than 5, which is OPEN", SOME, SOME.bytes(1, HEADERS, 0, 4), DOWN, down(2));
        edge("4, at LENGTH 0", SOME, SOME.bytes(0, HEADERS, 0, 4), DOWN, down(2));
        edge("2, SHUT", SOME, SOME.frame(HEADERS, END, 2), 1);
        edge("3, OPEN", SOME, SOME.frame(HEADERS, END, 3), 1, "state(3)=2");
        for (int s = 6; s <= 7; s++) {
            edge(s + ", IDLE, above all", SOME, SOME.open(s, 3), 1, "state(" + s + ")=1", "headers(" + s + ")=259",
                    "coming(" + s + ")=60", "sending(" + s + ")=60");
        }
        edge("6, IDLE, less than 7", SEVEN, SEVEN.bytes(1, HEADERS, 0, 6), DOWN, down(2));
        Run shut = new Run().open(2, 0).frame(RESET, 0, 2, 7).drain();
        edge("1, IDLE, less than 2 alone, which is SHUT", shut, shut.bytes(0, HEADERS, 0, 1), DOWN, down(2));
    }

    private static void lengthThatIsNotOne() {
        says("RESET, WINDOW, PING: LENGTH is not 1: 1");
        for (int sort = RESET; sort <= PING; sort++) {
            for (int length : new int[] {0, 2, 63}) {
                for (int stream : new int[] {0, 1, 2, 3, 6}) {
                    edge("LENGTH " + length + " of sort " + sort + " of " + stream, SOME,
                            SOME.bytes(length, sort, 0, stream), DOWN, down(1));
                }
            }
        }
        edge("LENGTH 1 of RESET, at its head", SOME, SOME.bytes(1, RESET, 0, 3), 0);
        edge("LENGTH 1 of WINDOW, at its head", SOME, SOME.bytes(1, WINDOW, 0, 3), 0);
        edge("LENGTH 1 of PING, at its head", SOME, SOME.bytes(1, PING, 0, 0), 0);
    }

    private static void wrongStreams() {
        says("RESET of stream 0, WINDOW or RESET of one that is IDLE, PING of a stream above 0: 2");
        edge("RESET of 0", SOME, SOME.bytes(1, RESET, 0, 0), DOWN, down(2));
        edge("WINDOW of 0", SOME, SOME.frame(WINDOW, 0, 0, 1), 1, "sending(0)=101");
        edge("PING of 0", SOME, SOME.frame(PING, 0, 0, 1), 1, "OUT=1 4 1 0 1");
        for (int idle : new int[] {1, 4, 6, 7}) {
            edge("RESET of " + idle, SOME, SOME.bytes(1, RESET, 0, idle), DOWN, down(2));
            edge("WINDOW of " + idle, SOME, SOME.bytes(1, WINDOW, 0, idle), DOWN, down(2));
        }
        for (int s = 1; s <= 7; s++) {
            edge("PING of " + s, SOME, SOME.bytes(1, PING, 0, s), DOWN, down(2));
            edge("PING with END of " + s, SOME, SOME.bytes(1, PING, END, s), DOWN, down(2));
        }
    }

    private static void away() {
        says("AWAY: the payload counts for nothing.");
        for (int stream = 0; stream <= 7; stream++) {
            for (int length : new int[] {0, 1, 2, 63}) {
                edge("LENGTH " + length + " of " + stream, SOME, SOME.frame(AWAY, END, stream, times(length, 4)), 1);
            }
        }
    }

    private static void resets() {
        says("RESET: the stream is SHUT, if it is not yet, its code 100 + the payload, its QUEUE empty.");
        for (int n : new int[] {0, 1, 254, 255}) {
            edge("payload " + n, SOME, SOME.frame(RESET, 0, 3, n), 1, "state(3)=4", "code(3)=" + (100 + n));
        }
        Run theirs = SOME.frame(DATA, END, 3);
        edge("when the other side ENDED", theirs, theirs.frame(RESET, 0, 3, 5), 1, "state(3)=4", "code(3)=105");
        Run ours = SOME.finish(3).drain();
        edge("when this side ENDED", ours, ours.frame(RESET, 0, 3, 5), 1, "state(3)=4", "code(3)=105");
        Run waits = new Run().field(0, 1, 3, false).open(1, 0).message(1, join(row(10, 100), times(100, 6))).answer(1)
                .finish(1).drain();
        Run reset = waits.frame(RESET, 0, 1, 5);
        edge("when bytes wait", waits, reset, 1, "state(1)=4", "code(1)=105");
        edge("its QUEUE is empty", reset, reset.frame(WINDOW, 0, 0, 5), 1, "sending(0)=45");
        edge("its END does not come", reset, reset.frame(WINDOW, 0, 1, 5), 1);
        edge("its message stays", reset, reset.frame(RESET, 0, 1, 6), 1);

        says("A RESET of a stream that is SHUT changes nothing, its code neither.");
        edge("by a RESET", SOME, SOME.frame(RESET, 0, 2, 8), 1);
        Run both = theirs.finish(3).drain();
        edge("by both ends", both, both.frame(RESET, 0, 3, 8), 1);
        Run cancelled = SOME.cancel(3, 20).drain();
        edge("by cancel", cancelled, cancelled.frame(RESET, 0, 3, 255), 1);
        Run wrong = SOME.data(3, 1).drain();
        edge("by an error", wrong, wrong.frame(RESET, 0, 3, 0), 1);
    }

    private static void windowsOfOnesThatAreShut() {
        says("WINDOW (of a stream that is SHUT it counts for nothing)");
        Run both = SOME.frame(DATA, END, 3).finish(3).cancel(5, 50).drain();
        for (int s : new int[] {2, 3, 5}) {
            for (int n : new int[] {0, 1, 195, 196, 255}) {
                edge(n + " of " + s, both, both.frame(WINDOW, 0, s, n), 1);
            }
        }
    }

    private static void windowsAtTheirMost() {
        says("the payload is added to the window for sending; 0 is ERROR 2, more than 255 then 3, "
                + "of the CONNECTION or stream");
        edge("1", SOME, SOME.frame(WINDOW, 0, 3, 1), 1, "sending(3)=61");
        edge("254 then", SOME, SOME.frame(WINDOW, 0, 3, 194), 1, "sending(3)=254");
        edge("255 then", SOME, SOME.frame(WINDOW, 0, 3, 195), 1, "sending(3)=255");
        edge("256 then", SOME, SOME.frame(WINDOW, 0, 3, 196), 1, shut(3, 3));
        edge("315 then", SOME, SOME.frame(WINDOW, 0, 3, 255), 1, shut(3, 3));
        edge("1 of the connection", SOME, SOME.frame(WINDOW, 0, 0, 1), 1, "sending(0)=101");
        edge("254 then, of the connection", SOME, SOME.frame(WINDOW, 0, 0, 154), 1, "sending(0)=254");
        edge("255 then, of the connection", SOME, SOME.frame(WINDOW, 0, 0, 155), 1, "sending(0)=255");
        edge("256 then, of the connection", SOME, SOME.frame(WINDOW, 0, 0, 156), DOWN, down(3));
        edge("355 then, of the connection", SOME, SOME.frame(WINDOW, 0, 0, 255), DOWN, down(3));
        Run most = SOME.frame(WINDOW, 0, 3, 195).frame(WINDOW, 0, 0, 155);
        edge("1 more than 255", most, most.frame(WINDOW, 0, 3, 1), 1, shut(3, 3));
        edge("1 more than 255, of the connection", most, most.frame(WINDOW, 0, 0, 1), DOWN, down(3));
        Run none = new Run().field(0, 1, 3, false).open(1, 0).message(1, join(row(10, 55), times(55, 6))).answer(1)
                .drain();
        edge("255 when there is none", none, none.frame(WINDOW, 0, 1, 255), 1, "sending(1)=255");
        Run ours = SOME.finish(3).drain();
        edge("when this side ENDED", ours, ours.frame(WINDOW, 0, 3, 195), 1, "sending(3)=255");
        edge("256 then, when this side ENDED", ours, ours.frame(WINDOW, 0, 3, 196), 1, shut(3, 3));
    }

    private static void windowsOfZero() {
        says("WINDOW: if it is an ERROR, the window for sending stays as it was.");
        edge("0", SOME, SOME.frame(WINDOW, 0, 3, 0), 1, shut(3, 2));
        edge("0 of the connection", SOME, SOME.frame(WINDOW, 0, 0, 0), DOWN, down(2));
        Run most = SOME.frame(WINDOW, 0, 3, 195).frame(WINDOW, 0, 0, 155);
        edge("0 at 255", most, most.frame(WINDOW, 0, 3, 0), 1, shut(3, 2));
        edge("0 of the connection at 255", most, most.frame(WINDOW, 0, 0, 0), DOWN, down(2));
    }

    private static void pings() {
        says("PING without END: (1, 4, 1, 0, payload) is sent.");
        for (int n : new int[] {0, 1, 255}) {
            edge("payload " + n, SOME, SOME.frame(PING, 0, 0, n), 1, "OUT=1 4 1 0 " + n);
            edge("payload " + n + " with END", SOME, SOME.frame(PING, END, 0, n), 1);
        }
    }
}
