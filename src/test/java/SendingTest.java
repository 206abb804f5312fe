/** Promises 4, 6, 7, 21 and 22: windows for what comes in, ends, errors of this side, and OUT. */
public final class SendingTest {
    public static void main(String[] args) {
        grants();
        grantsThatAreBad();
        finishes();
        finishesWithBytes();
        finishesThatAreFalse();
        cancels();
        piecesOfSixteen();
        windowsOfStreams();
        windowOfTheConnection();
        turns();
        turnsOfEnds();
        queuesThatGo();
        downSendsNothing();
        outAndDrain();
        Check.end();
    }

    /** Streams 1 to n, OPEN, each with the message 8, s in it. */
    private static Line streams(int n) {
        Line line = new Line();
        line.desk.field(0, 1, 0, false);
        line.desk.field(0, 2, 3, false);
        for (int s = 1; s <= n; s++) {
            line.open(s, 0);
            line.message(s, 8, s);
        }
        return line;
    }

    private static int[] five(int s) {
        return Line.row(5, 0, 0, s, 0, 0, 2, 8, s);
    }

    private static void grants() {
        Line line = streams(1);
        Desk x = line.desk;
        Check.same("of the stream", x.grant(1, 200), 255);
        Check.same("of the connection", x.grant(0, 1), 96);
        Check.same("window", x.window(1, false), 255);
        Check.same("window", x.window(0, false), 96);
        Check.same("the other way it stays", x.window(1, true), 60);
        Check.same("more", x.grant(0, 159), 255);
        line.sent("grants", 1, 3, 0, 1, 200, 1, 3, 0, 0, 1, 1, 3, 0, 0, 159);
        line.frame(Line.DATA, 1, 1);
        line.frame(Line.PING, 0, 0, 3);
        line.frame(Line.DATA, 0, 1);
        Check.same("SHUT", x.grant(1, 1), CallDesk.BAD);
        Line whole = new Line().open(7, 0);
        whole.frame(Line.DATA, 1, 7);
        Check.same("when the other side ended", whole.desk.grant(7, 195), 255);
        Line full = new Line().open(1, 0);
        full.frame(Line.DATA, 0, 1, Line.join(Line.row(0, 0, 57), Line.times(19, 128, 1, 0)));
        Check.same("255 at once", full.desk.grant(1, 255), 255);
    }

    private static void grantsThatAreBad() {
        Line line = streams(1);
        Desk x = line.desk;
        int[] wrong = {0, -1, 256, 201, Integer.MIN_VALUE, Integer.MAX_VALUE};
        for (int n : wrong) {
            Check.same("grant of " + n, x.grant(1, n), CallDesk.BAD);
            Check.same("grant of " + n + " to the connection", x.grant(0, n), CallDesk.BAD);
        }
        for (int s : new int[] {-1, 2, 8, Integer.MIN_VALUE, Integer.MAX_VALUE}) {
            Check.same("grant to " + s, x.grant(s, 1), CallDesk.BAD);
        }
        Check.same("nothing changes", x.window(1, false), 55);
        Check.same("nothing changes", x.window(0, false), 95);
        line.sent("nothing is sent");
    }

    private static void finishes() {
        Line line = streams(2);
        Desk x = line.desk;
        Check.same("finish", x.finish(1), true);
        Check.same("this side ended", x.state(1), 3);
        line.sent("at once", 0, 0, 1, 1);
        line.frame(Line.DATA, 0, 1, 0, 0, 2, 8, 9);
        Check.same("the other side goes on", x.value(1, 0, 1, 0), 9);
        line.frame(Line.DATA, 1, 1);
        Check.same("both ended", x.state(1), 4);
        Check.same("no code", x.code(1), 0);
        line.frame(Line.DATA, 1, 2);
        Check.same("the other side ended", x.state(2), 2);
        Check.same("finish", x.finish(2), true);
        Check.same("both ended", x.state(2), 4);
        line.sent("the second one", 0, 0, 1, 2);
    }

    private static void finishesWithBytes() {
        Line line = streams(1);
        Desk x = line.desk;
        line.message(1, Line.join(Line.row(18, 70), Line.times(70, 6)));
        Check.same("answer", x.answer(1), 72);
        x.drain();
        Check.same("finish", x.finish(1), true);
        Check.same("bytes are left", x.state(1), 1);
        line.sent("nothing yet");
        line.frame(Line.WINDOW, 0, 1, 14);
        Check.same("one byte is left", x.state(1), 1);
        line.sent("without END", Line.join(Line.row(14, 0, 0, 1), Line.times(14, 6)));
        line.frame(Line.WINDOW, 0, 1, 200);
        Check.same("now it ended", x.state(1), 3);
        line.sent("with END", 1, 0, 1, 1, 6);
        Check.same("window", x.window(1, true), 199);
    }

    private static void finishesThatAreFalse() {
        Line line = streams(2);
        Desk x = line.desk;
        for (int s : new int[] {-1, 0, 3, 8, Integer.MIN_VALUE, Integer.MAX_VALUE}) {
            Check.same("finish of " + s, x.finish(s), false);
        }
        x.finish(1);
        Check.same("again", x.finish(1), false);
        x.cancel(2, 20);
        Check.same("SHUT", x.finish(2), false);
        line.sent("nothing more", 0, 0, 1, 1, 1, 2, 0, 2, 20);
    }

    private static void cancels() {
        Line line = streams(3);
        Desk x = line.desk;
        for (int code : new int[] {19, 100, 0, -20, Integer.MIN_VALUE, Integer.MAX_VALUE}) {
            Check.same("code " + code, x.cancel(1, code), false);
        }
        for (int s : new int[] {-1, 0, 4, 8, Integer.MIN_VALUE, Integer.MAX_VALUE}) {
            Check.same("cancel of " + s, x.cancel(s, 20), false);
        }
        line.sent("nothing yet");
        Check.same("code 20", x.cancel(1, 20), true);
        Check.same("state", x.state(1), 4);
        Check.same("code", x.code(1), 20);
        Check.same("code 99", x.cancel(3, 99), true);
        Check.same("again", x.cancel(3, 98), false);
        Check.same("the first one stays", x.code(3), 99);
        line.sent("cancels", 1, 2, 0, 1, 20, 1, 2, 0, 3, 99);
        // What is left of a payload counts for nothing, and END neither.
        line.head(5, Line.DATA, 1, 2);
        line.bytes(0, 0, 2);
        x.cancel(2, 50);
        Check.same("the rest of the frame", line.bytes(8, 1), 1);
        Check.same("code", x.code(2), 50);
        Check.same("messages", x.messages(2), 1);
        line.sent("one RESET", 1, 2, 0, 2, 50);
    }

    private static void piecesOfSixteen() {
        Line line = streams(1);
        line.message(1, Line.join(Line.row(18, 30), Line.times(30, 4)));
        Check.same("answer", line.desk.answer(1), 32);
        line.sent("35 bytes", Line.join(Line.row(16, 0, 0, 1, 0, 0, 32, 18, 30), Line.times(11, 4),
                Line.row(16, 0, 0, 1), Line.times(16, 4), Line.row(3, 0, 0, 1), Line.times(3, 4)));
        line.message(1, Line.join(Line.row(18, 11), Line.times(11, 4)));
        Check.same("answer", line.desk.answer(1), 13);
        line.sent("16 bytes", Line.join(Line.row(16, 0, 0, 1, 0, 0, 13, 18, 11), Line.times(11, 4)));
    }

    private static void windowsOfStreams() {
        Line line = streams(2);
        Desk x = line.desk;
        for (int k = 0; k < 12; k++) {
            x.answer(1);
        }
        Check.same("window", x.window(1, true), 0);
        x.drain();
        Check.same("one more", x.answer(1), 2);
        line.sent("it waits");
        Check.same("another stream", x.answer(2), 2);
        line.sent("does not wait", five(2));
        line.frame(Line.WINDOW, 0, 0, 50);
        line.sent("nor is it the connection's window");
        line.message(1, 8, 33);
        Check.same("another behind it", x.answer(1), 2);
        line.frame(Line.WINDOW, 0, 1, 3);
        line.sent("three bytes", 3, 0, 0, 1, 0, 0, 2);
        line.frame(Line.WINDOW, 0, 1, 1);
        line.sent("one byte", 1, 0, 0, 1, 8);
        line.frame(Line.WINDOW, 0, 1, 13);
        line.sent("the rest", 6, 0, 0, 1, 1, 0, 0, 2, 8, 33);
        Check.same("window", x.window(1, true), 7);
        Check.same("the connection's", x.window(0, true), 75);
    }

    private static void windowOfTheConnection() {
        Line line = streams(2);
        Desk x = line.desk;
        for (int k = 0; k < 10; k++) {
            x.answer(1);
            x.answer(2);
        }
        Check.same("the connection's", x.window(0, true), 0);
        x.drain();
        x.answer(1);
        x.answer(2);
        line.sent("all wait");
        line.frame(Line.WINDOW, 0, 0, 4);
        line.sent("four bytes of the one behind 2", 4, 0, 0, 1, 0, 0, 2, 8);
        line.frame(Line.WINDOW, 0, 0, 1);
        line.sent("then one of the next one", 1, 0, 0, 2, 0);
        line.frame(Line.WINDOW, 0, 0, 4);
        line.sent("then the rest of the first one, and more", 1, 0, 0, 1, 1, 3, 0, 0, 2, 0, 2, 8);
        line.frame(Line.WINDOW, 0, 0, 8);
        line.sent("then the rest", 1, 0, 0, 2, 2);
        Check.same("what is left", x.window(0, true), 7);
    }

    private static void turns() {
        Line line = streams(7);
        Desk x = line.desk;
        for (int k = 0; k < 10; k++) {
            x.answer(1);
            x.answer(2);
        }
        x.drain();
        for (int s = 7; s >= 1; s--) {
            line.message(s, Line.join(Line.row(18, 20), Line.times(20, s)));
            x.answer(s);
        }
        x.drain();
        line.frame(Line.WINDOW, 0, 0, 255);
        // Stream 2 sent last. Streams 1 and 2 have a window of 10 yet.
        int[][] first = new int[8][];
        int[][] rest = new int[8][];
        for (int s = 1; s <= 7; s++) {
            first[s] = Line.join(Line.row(16, 0, 0, s, 0, 0, 22, 18, 20), Line.times(11, s));
            rest[s] = Line.join(Line.row(9, 0, 0, s), Line.times(9, s));
        }
        first[1] = Line.join(Line.row(10, 0, 0, 1, 0, 0, 22, 18, 20), Line.times(5, 1));
        first[2] = Line.join(Line.row(10, 0, 0, 2, 0, 0, 22, 18, 20), Line.times(5, 2));
        int[] due = Line.join(first[3], first[4], first[5], first[6], first[7], first[1], first[2],
                rest[3], rest[4], rest[5], rest[6], rest[7]);
        line.sent("turn by turn", due);
        line.frame(Line.WINDOW, 0, 2, 20);
        line.sent("2 again", Line.join(Line.row(15, 0, 0, 2), Line.times(15, 2)));
    }

    private static void turnsOfEnds() {
        Line line = streams(4);
        Desk x = line.desk;
        for (int k = 0; k < 10; k++) {
            x.answer(2);
            x.answer(4);
        }
        x.drain();
        x.answer(3);
        x.finish(3);
        line.sent("3 waits for the window");
        x.finish(1);
        line.sent("1 does not", 0, 0, 1, 1);
        x.answer(2);
        x.answer(4);
        line.frame(Line.WINDOW, 0, 0, 8);
        line.sent("2 is behind 1, which sent last", 5, 0, 0, 2, 0, 0, 2, 8, 2, 3, 0, 0, 3, 0, 0, 2);
        line.frame(Line.WINDOW, 0, 0, 20);
        line.sent("4 is behind 3, which then has its end", 5, 0, 0, 4, 0, 0, 2, 8, 4, 2, 0, 1, 3, 8, 3);
        Check.same("3 ended", x.state(3), 3);
        line.frame(Line.DATA, 1, 3);
        Check.same("both ended", x.state(3), 4);
    }

    private static void queuesThatGo() {
        Line line = streams(3);
        Desk x = line.desk;
        for (int k = 0; k < 14; k++) {
            x.answer(1);
            x.answer(2);
            x.answer(3);
        }
        x.drain();
        x.cancel(1, 40);
        line.frame(Line.RESET, 0, 2, 40);
        line.frame(Line.WINDOW, 0, 0, 100);
        int sent = x.out(-1);
        Check.same("only stream 3 has bytes yet", x.out(8), 3);
        for (int at = 5; at < sent; at += 4 + x.out(at)) {
            Check.same("of stream 3", x.out(at + 3), 3);
        }
        Check.same("its window", x.window(3, true), 0);
        Check.same("the others' stay", x.window(1, true) + x.window(2, true), 50);
    }

    private static void downSendsNothing() {
        Line line = streams(1);
        Desk x = line.desk;
        for (int k = 0; k < 13; k++) {
            x.answer(1);
        }
        x.drain();
        line.head(1, Line.WINDOW, 0, 1);
        line.bytes(9);
        line.sent("a window", 5, 0, 0, 1, 0, 0, 2, 8, 1);
        x.answer(1);
        line.head(2, Line.PING, 0, 0);
        line.sent("the end", 4, 0, 0, 1, 0, 0, 2, 8, 1, 5, 0, 0, 1);
    }

    private static void outAndDrain() {
        Line line = new Line();
        Desk x = line.desk;
        Check.same("drain of nothing", x.drain(), 0);
        int[] pings = Line.times(239, 1, Line.PING, 0, 0, 0);
        for (int k = 0; k < 239; k++) {
            pings[5 * k + 4] = k;
        }
        line.bytes(pings);
        Check.same("out", x.out(-1), 1195);
        for (int k : new int[] {-2, 1195, 1200, Integer.MIN_VALUE, Integer.MAX_VALUE}) {
            Check.same("out " + k, x.out(k), -1);
        }
        Check.same("the first", x.out(4), 0);
        Check.same("the last", x.out(1194), 238);
        line.open(1, 0);
        line.frame(Line.DATA, 0, 1, 0, 0, 0);
        x.answer(1);
        Check.same("OUT is full", x.out(-1), 1200);
        Check.same("part of the frame", x.out(1195), 3);
        Check.same("part of the frame", x.out(1198), 1);
        Check.same("out 1200", x.out(1200), -1);
        line.frame(Line.PING, 0, 0, 9);
        Check.same("more are lost", x.out(-1), 1200);
        Check.same("the window went down", x.window(1, true), 57);
        Check.same("drain", x.drain(), 1200);
        Check.same("empty", x.out(-1), 0);
        Check.same("empty", x.out(0), -1);
        line.frame(Line.PING, 0, 0, 10);
        line.sent("room again", 1, 4, 1, 0, 10);
    }
}
