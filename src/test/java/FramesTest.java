/** Promises 3, 8, 9 and 10: frames, streams and their errors. */
public final class FramesTest {
    public static void main(String[] args) {
        feedCountsFrames();
        feedOfWrongNumbers();
        headsThatBreakTheConnection();
        headsThatDoNot();
        dataOfSeveralStates();
        dataAndWindows();
        headersOfSeveralStates();
        resets();
        windows();
        pings();
        endsOfTheOtherSide();
        afterDown();
        looksOutside();
        Check.end();
    }

    private static void feedCountsFrames() {
        Desk x = new Desk();
        Check.same("a head", x.feed(0x00000401, 4), 0);
        Check.same("its payload and part of the next head", x.feed(0x00040109, 4), 1);
        Check.same("the rest of the head", x.feed(0, 1), 0);
        Check.same("its payload", x.feed(9, 1), 1);
        Check.same("a frame without a payload, in one call", x.feed(0x00000500, 4), 1);
        Check.same("a frame of another sort", x.feed(0xFFFF0600, 4), 1);
        Check.same("one with a payload", x.feed(0xFF01C802, 4), 0);
        Check.same("its end", x.feed(0x0000, 2), 1);
        Check.same("bits above n count for nothing", x.feed(0x12345600, 1), 0);
        Check.same("the second byte", x.feed(0x12345605, 1), 0);
        Check.same("the third and fourth", x.feed(0x12340000, 2), 1);
        Line line = new Line().open(1, 0);
        Check.same("an error of a stream is no hindrance", line.frame(Line.DATA, 0, 1, 1, 2, 3), 1);
        Check.same("state then", line.desk.state(1), 4);
    }

    private static void feedOfWrongNumbers() {
        Line line = new Line();
        for (int n : new int[] {0, -1, 5, 100, Integer.MIN_VALUE, Integer.MAX_VALUE}) {
            Check.same("feed of " + n, line.desk.feed(64, n), CallDesk.BAD);
        }
        Check.same("nothing came by that", line.frame(Line.PING, 0, 0, 8), 1);
        line.head(64, 9, 0, 0);
        Check.same("BAD before DOWN", line.desk.feed(0, 5), CallDesk.BAD);
        Check.same("DOWN", line.desk.feed(0, 1), CallDesk.DOWN);
    }

    /** A desk with stream 3 OPEN and stream 2 SHUT. */
    private static Line someStreams() {
        Line line = new Line().open(2, 0).open(3, 0);
        line.frame(Line.RESET, 0, 2, 7);
        return line;
    }

    private static void broken(String what, int code, int length, int sort, int flags, int stream) {
        Line line = someStreams();
        Check.same(what, line.head(length, sort, flags, stream), CallDesk.DOWN);
        Check.same(what + ": state", line.desk.state(0), 4);
        Check.same(what + ": code", line.desk.code(0), code);
        line.sent(what, 1, 5, 0, 0, code);
        Check.same(what + ": stream 3", line.desk.state(3), 1);
    }

    private static void headsThatBreakTheConnection() {
        for (int sort : new int[] {0, 1, 2, 3, 4, 5, 6, 255}) {
            broken("LENGTH 64 of sort " + sort, 1, 64, sort, 0, 3);
            broken("LENGTH 255 of sort " + sort, 1, 255, sort, 1, 200);
        }
        for (int sort = 0; sort <= 5; sort++) {
            broken("STREAM 8 of sort " + sort, 2, 1, sort, 0, 8);
            broken("STREAM 255 of sort " + sort, 2, 0, sort, 0, 255);
        }
        broken("DATA of 0", 2, 1, Line.DATA, 0, 0);
        broken("DATA of an IDLE one", 2, 1, Line.DATA, 0, 4);
        broken("empty DATA of an IDLE one", 2, 0, Line.DATA, 0, 1);
        broken("HEADERS of 0", 2, 1, Line.HEADERS, 0, 0);
        broken("HEADERS of one that was passed", 2, 1, Line.HEADERS, 0, 1);
        Line passed = new Line().open(2, 0);
        Check.same("passed by the next one alone", passed.head(1, Line.HEADERS, 0, 1), CallDesk.DOWN);
        passed = new Line().open(7, 0);
        Check.same("passed by the last one", passed.head(1, Line.HEADERS, 0, 6), CallDesk.DOWN);
        for (int sort = 2; sort <= 4; sort++) {
            broken("LENGTH 0 of sort " + sort, 1, 0, sort, 0, 3);
            broken("LENGTH 2 of sort " + sort, 1, 2, sort, 0, 0);
        }
        broken("RESET of 0", 2, 1, Line.RESET, 0, 0);
        broken("RESET of an IDLE one", 2, 1, Line.RESET, 0, 4);
        broken("WINDOW of an IDLE one", 2, 1, Line.WINDOW, 0, 4);
        broken("PING of a stream", 2, 1, Line.PING, 0, 3);
        broken("PING of a stream with END", 2, 1, Line.PING, 1, 2);
    }

    private static void headsThatDoNot() {
        Line line = someStreams();
        line.frame(6, 0, 200, 1, 2);
        line.frame(255, 255, 255);
        line.frame(9, 1, 1, new int[63]);
        for (int stream = 0; stream <= 7; stream++) {
            line.frame(Line.AWAY, 1, stream, 5, 5, 5);
        }
        line.frame(Line.AWAY, 0, 0, new int[63]);
        Check.same("the connection", line.desk.state(0), 1);
        Check.same("stream 3", line.desk.state(3), 1);
        Check.same("stream 4", line.desk.state(4), 0);
        Check.same("window", line.desk.window(0, false), 100);
        line.sent("others count for nothing");
    }

    private static void dataOfSeveralStates() {
        Line line = someStreams();
        Desk x = line.desk;
        int before = x.window(2, false);
        line.frame(Line.DATA, 1, 2, 9, 9, 9);
        Check.same("DATA of a SHUT one: the connection's window", x.window(0, false), 97);
        Check.same("DATA of a SHUT one: its window", x.window(2, false), before);
        Check.same("DATA of a SHUT one: its code", x.code(2), 107);
        line.sent("DATA of a SHUT one");
        line.frame(Line.DATA, 1, 3);
        Check.same("END", x.state(3), 2);
        line.head(2, Line.DATA, 0, 3);
        Check.same("DATA behind END", x.code(3), 5);
        Check.same("DATA behind END: state", x.state(3), 4);
        Check.same("DATA behind END: window", x.window(3, false), 60);
        Check.same("DATA behind END: the connection's", x.window(0, false), 95);
        Check.same("the rest of it", line.bytes(7, 7), 1);
        line.sent("DATA behind END", 1, 2, 0, 3, 5);
    }

    private static void dataAndWindows() {
        Line line = new Line().open(1, 0).open(2, 0);
        Desk x = line.desk;
        line.head(60, Line.DATA, 0, 1);
        Check.same("the window goes down at the head", x.window(1, false), 0);
        Check.same("the connection's too", x.window(0, false), 40);
        line.bytes(Line.join(Line.row(0, 0, 57), Line.times(19, 128, 1, 0)));
        Check.same("still OPEN", x.state(1), 1);
        Check.same("empty DATA with no window", line.frame(Line.DATA, 0, 1), 1);
        Check.same("still OPEN", x.state(1), 1);
        line.head(1, Line.DATA, 0, 1);
        Check.same("one byte too many for the stream", x.code(1), 3);
        Check.same("the connection's window", x.window(0, false), 39);
        line.bytes(0);
        line.head(40, Line.DATA, 0, 2);
        Check.same("one byte too many for the connection", x.state(0), 4);
        Check.same("its code", x.code(0), 3);
        Check.same("its window", x.window(0, false), 39);
        Check.same("the stream's window", x.window(2, false), 60);
        line.sent("windows", 1, 2, 0, 1, 3, 1, 5, 0, 0, 3);

        Line both = new Line().open(1, 0);
        both.desk.grant(1, 60);
        both.frame(Line.DATA, 0, 1, Line.join(Line.row(0, 0, 60), Line.times(20, 128, 1, 0)));
        Check.same("63 bytes", both.desk.window(0, false), 37);
        both.head(38, Line.DATA, 0, 1);
        Check.same("the connection's window goes first", both.desk.code(0), 3);
    }

    private static void headersOfSeveralStates() {
        Line line = new Line();
        Desk x = line.desk;
        line.head(1, Line.HEADERS, 0, 2);
        Check.same("before the end", x.state(2), 0);
        line.bytes(130);
        Check.same("at the end", x.state(2), 1);
        Check.same("window in", x.window(2, false), 60);
        Check.same("window out", x.window(2, true), 60);
        line.frame(Line.HEADERS, 0, 5, 5, 5);
        Check.same("without a type", x.state(5), 4);
        Check.same("without a type: code", x.code(5), 6);
        Check.same("without a type: window", x.window(5, false), 60);
        line.frame(Line.HEADERS, 1, 6, 1, 4);
        Check.same("a type above 3", x.code(6), 6);
        line.frame(Line.HEADERS, 0, 7);
        Check.same("no headers", x.code(7), 6);
        line.sent("types", 1, 2, 0, 5, 6, 1, 2, 0, 6, 6, 1, 2, 0, 7, 6);
        line.frame(Line.HEADERS, 0, 2, 1, 1);
        Check.same("HEADERS of an OPEN one without END", x.code(2), 2);
        line.frame(Line.HEADERS, 1, 2, 3, 3);
        Check.same("HEADERS of a SHUT one", x.code(2), 2);
        Check.same("its headers", x.header(2, 2), -1);
        Check.same("headers before the error", x.header(2, 1), 257);
        line.sent("HEADERS again", 1, 2, 0, 2, 2);

        Line ended = new Line();
        ended.frame(Line.HEADERS, 3, 1, 129);
        Check.same("opened with END", ended.desk.state(1), 2);
        ended.frame(Line.HEADERS, 1, 1, 7, 8);
        Check.same("HEADERS behind END", ended.desk.code(1), 5);
        Check.same("they are kept", ended.desk.header(1, 1), 7 * 256 + 8);
    }

    private static void resets() {
        Line line = new Line().open(1, 0);
        Desk x = line.desk;
        line.head(1, Line.RESET, 1, 1);
        Check.same("before the end", x.state(1), 1);
        line.bytes(255);
        Check.same("state", x.state(1), 4);
        Check.same("code", x.code(1), 355);
        line.frame(Line.RESET, 0, 1, 3);
        Check.same("RESET of a SHUT one", x.code(1), 355);
        line.open(2, 0);
        line.frame(Line.RESET, 0, 2, 0);
        Check.same("code 100", x.code(2), 100);
        line.open(3, 0);
        x.cancel(3, 20);
        line.frame(Line.RESET, 0, 3, 9);
        Check.same("RESET of one that was cancelled", x.code(3), 20);
        line.sent("nothing but the RESET of cancel", 1, 2, 0, 3, 20);
    }

    private static void windows() {
        Line line = new Line().open(1, 0).open(2, 0).open(3, 0);
        Desk x = line.desk;
        line.frame(Line.WINDOW, 0, 1, 195);
        Check.same("up to 255", x.window(1, true), 255);
        Check.same("not the other way", x.window(1, false), 60);
        line.frame(Line.WINDOW, 1, 1, 1);
        Check.same("above 255", x.code(1), 3);
        Check.same("it stays", x.window(1, true), 255);
        line.frame(Line.WINDOW, 0, 1, 0);
        Check.same("of a SHUT one", x.code(1), 3);
        line.frame(Line.WINDOW, 0, 2, 0);
        Check.same("0", x.code(2), 2);
        Check.same("it stays", x.window(2, true), 60);
        line.frame(Line.WINDOW, 0, 0, 155);
        Check.same("the connection's", x.window(0, true), 255);
        line.sent("errors of streams", 1, 2, 0, 1, 3, 1, 2, 0, 2, 2);
        line.frame(Line.WINDOW, 0, 0, 1);
        Check.same("the connection's above 255", x.code(0), 3);
        Check.same("it stays", x.window(0, true), 255);
        line.sent("error of the connection", 1, 5, 0, 0, 3);

        Line none = new Line();
        Check.same("0 of the connection", none.frame(Line.WINDOW, 0, 0, 0), CallDesk.DOWN);
        Check.same("its code", none.desk.code(0), 2);
    }

    private static void pings() {
        Line line = new Line();
        line.frame(Line.PING, 0, 0, 200);
        line.frame(Line.PING, 1, 0, 201);
        line.frame(Line.PING, 254, 0, 0);
        line.frame(Line.PING, 255, 0, 1);
        line.sent("pings", 1, 4, 1, 0, 200, 1, 4, 1, 0, 0);
    }

    private static void endsOfTheOtherSide() {
        Line line = new Line().open(1, 0).open(2, 0).open(3, 0).open(4, 0).open(5, 0).open(6, 0);
        Desk x = line.desk;
        line.frame(Line.DATA, 1, 1, 0, 0, 0);
        Check.same("behind a whole message", x.state(1), 2);
        line.frame(Line.DATA, 1, 2, 0, 0);
        Check.same("in the three bytes", x.code(2), 9);
        line.frame(Line.DATA, 0, 3, 0, 0, 2, 8);
        line.frame(Line.HEADERS, 1, 3);
        Check.same("in a message, by HEADERS", x.code(3), 9);
        line.frame(Line.HEADERS, 1, 4, 9, 9);
        Check.same("by HEADERS", x.state(4), 2);
        x.finish(5);
        Check.same("this side", x.state(5), 3);
        line.frame(Line.DATA, 254, 5, 0);
        Check.same("FLAGS without END", x.state(5), 3);
        line.frame(Line.DATA, 1, 5);
        Check.same("both sides, but a message is not whole", x.code(5), 9);
        x.finish(6);
        line.frame(Line.DATA, 255, 6);
        Check.same("both sides", x.state(6), 4);
        Check.same("without an error", x.code(6), 0);
        Check.same("its window stays", x.window(6, false), 60);
    }

    private static void afterDown() {
        Line line = new Line().open(1, 0).open(2, 0);
        Desk x = line.desk;
        x.field(0, 1, 0, false);
        line.message(1, 8, 1);
        x.cancel(2, 30);
        x.drain();
        line.frame(Line.PING, 0, 4, 1);
        x.drain();
        Check.same("feed", x.feed(0, 4), CallDesk.DOWN);
        Check.same("grant", x.grant(1, 1), CallDesk.DOWN);
        Check.same("grant of wrong numbers", x.grant(99, -1), CallDesk.DOWN);
        Check.same("answer", x.answer(1), CallDesk.DOWN);
        Check.same("answer of no stream", x.answer(9), CallDesk.DOWN);
        Check.same("finish", x.finish(1), false);
        Check.same("cancel", x.cancel(1, 20), false);
        Check.same("state 1", x.state(1), 1);
        Check.same("state 2", x.state(2), 4);
        Check.same("code 2", x.code(2), 30);
        Check.same("window 1", x.window(1, false), 55);
        Check.same("messages", x.messages(1), 1);
        line.sent("nothing goes out");
    }

    private static void looksOutside() {
        Desk x = new Desk();
        for (int s : new int[] {-1, 8, 9, Integer.MIN_VALUE, Integer.MAX_VALUE, 1 << 29}) {
            Check.same("state of " + s, x.state(s), CallDesk.BAD);
            Check.same("code of " + s, x.code(s), CallDesk.BAD);
            Check.same("window of " + s, x.window(s, true), CallDesk.BAD);
            Check.same("window of " + s, x.window(s, false), CallDesk.BAD);
        }
    }
}
