import java.util.function.ToIntFunction;

/** The sentences under the promises, each at the edges of its arguments and with calls that are refused. */
public final class CallEdgesTest extends Edges {
    /**
     * Type 0 has INT 1 and BYTES 2 SINGLE, PART 3 of type 1, INT 4 REPEATED. Streams: 1 is IDLE, 2 SHUT with code 107,
     * 3 OPEN with a message, of 4 the other side ENDED, of 5 this side, 6 is OPEN without a message, 7 IDLE.
     */
    private static final Run SOME = new Run().field(0, 1, 0, false).field(0, 2, 3, false).field(0, 3, 5, false)
            .field(0, 4, 0, true).open(2, 0).frame(HEADERS, 0, 3, 129, 66, 7).open(4, 0).open(5, 0).open(6, 0)
            .frame(RESET, 0, 2, 7).message(3, 8, 5, 18, 2, 8, 9, 26, 0, 34, 2, 3, 4).frame(DATA, END, 4).finish(5)
            .drain();
    private static final Run DEAD = SOME.bytes(64, 0, 0, 0).drain();

    public static void main(String[] args) {
        newObject();
        fieldsInside();
        fieldsOutside();
        fieldsWhenStreamsAreNotIdle();
        feeds();
        feedBeforeDown();
        feedsThatBringItDown();
        errorsOfTheStream();
        grantsFromOneTo255();
        grantsUpTo255();
        grantsToOthers();
        answers();
        answersThatAreBad();
        answersOfTheNextOne();
        finishes();
        cancels();
        states();
        codes();
        windows();
        headers();
        tables();
        nodesAndFields();
        values();
        bytesOfValues();
        noStreams();
        outs();
        theLastOfAllCalls();
        Check.end();
    }

    private static void is(String name, Run run, String due) {
        String got = run.sight().get(name);
        if (!got.equals(due)) {
            Check.told(name + " is " + got + ", due is " + due);
        }
    }

    /** One look on an object of its own. */
    private static void look(String what, Run run, int due, ToIntFunction<Desk> call) {
        same(what, call.applyAsInt(run.desk()), due);
    }

    private static void newObject() {
        says("No fields, all streams IDLE; the connection's windows, for both ways, are 100.");
        Run none = new Run();
        is("state(0)", none, "1");
        is("code(0)", none, "0");
        is("coming(0)", none, "100");
        is("sending(0)", none, "100");
        is("MOST", none, "16");
        is("TABLE", none, "");
        is("OUT", none, "");
        for (int s = 1; s <= 7; s++) {
            for (String name : new String[] {"state", "code", "coming", "sending", "messages", "skipped", "size"}) {
                is(name + "(" + s + ")", none, "0");
            }
            is("headers(" + s + ")", none, "");
            is("message(" + s + ")", none, "");
        }
        for (int type = 0; type <= 3; type++) {
            Run open = none.open(1, type);
            int[] all = new int[32];
            for (int number = 1; number <= 15; number++) {
                all[2 * number - 2] = 8 * number;
            }
            all[30] = 128;
            all[31] = 1;
            edge("no fields of type " + type, open, open.data(1, join(row(0, 0, 33), all, row(0))), 1,
                    "coming(0)=64", "coming(1)=24", "messages(1)=1", "message(1)=" + type + "{}", "skipped(1)=33");
        }
    }

    private static void fieldsInside() {
        says("Sets a field: kind -1 (NONE) to 7.");
        Run none = new Run();
        for (int type = 0; type <= 3; type += 3) {
            for (int number = 1; number <= 15; number += 14) {
                for (int kind = -1; kind <= 7; kind++) {
                    edge("field " + type + " " + number + " " + kind, none, none.field(type, number, kind, true), 1);
                }
            }
        }
        int tag = 15 * 8 + 2;
        String[] due = {"3{}", "3{15=8,1}", "3{15=4,-1}", "", "3{15=2[8 1]}", "3{15=1} 0{}", "3{15=1} 1{}",
            "3{15=1} 2{}", "3{15=1} 3{}"};
        for (int kind = -1; kind <= 7; kind++) {
            // Two bytes are no FIXED, so that is an error.
            Run run = none.field(3, 15, kind, true).open(1, 3).data(1, 0, 0, 4, tag, 2, 8, 1);
            is("message(1)", run, due[kind + 1]);
            is("state(1)", run, kind == 2 ? "4" : "1");
        }
        Run single = none.field(3, 15, 0, true).field(3, 15, 0, false).open(1, 3).data(1, 0, 0, 4, tag, 2, 8, 1);
        is("message(1)", single, "3{}");
    }

    private static void fieldsOutside() {
        says("False, and nothing changes, if a number is outside");
        Run one = new Run().field(0, 1, 0, true);
        int[][] wrong = {{-1, 1, 3}, {4, 1, 3}, {0, 0, 3}, {0, -1, 3}, {0, 16, 3}, {0, 17, 3}, {0, 1, -2}, {0, 1, 8},
            {1, -15, 3}, {-1, 17, 3}, {4, 16, 8}};
        for (int[] n : wrong) {
            refusedField(one, n[0], n[1], n[2]);
        }
        for (int n : FAR) {
            refusedField(one, n, 1, 3);
            refusedField(one, 0, n, 3);
            refusedField(one, 0, 1, n);
        }
    }

    private static void refusedField(Run one, int type, int number, int kind) {
        String what = "field " + type + " " + number + " " + kind;
        Run refused = one.field(type, number, kind, false);
        edge(what, one, refused, 0);
        is("message(1)", refused.open(1, 0).data(1, 0, 0, 6, 8, 5, 8, 6, 16, 7), "0{1=5,6}");
    }

    private static void fieldsWhenStreamsAreNotIdle() {
        says("or a stream is not IDLE");
        Run one = new Run().field(0, 1, 0, true);
        for (int s = 1; s <= 7; s++) {
            Run half = one.bytes(1, HEADERS, 0, s);
            edge("HEADERS of " + s + " are not whole", half, half.field(0, 1, 3, true), 1);
            Run open = one.open(s, 0);
            edge(s + " is OPEN", open, open.field(0, 1, 3, true), 0);
            Run shut = open.frame(RESET, 0, s, 0);
            edge(s + " is SHUT", shut, shut.field(0, 1, 3, true), 0);
            Run untyped = one.frame(HEADERS, 0, s);
            edge(s + " is SHUT at once", untyped, untyped.field(0, 1, 3, true), 0);
            is("message(" + s + ")", open.field(0, 1, 3, true).field(0, 1, -1, true).data(s, 0, 0, 2, 8, 5), "0{1=5}");
        }
        Run wrong = one.frame(HEADERS, 0, 1, 128);
        edge("ERROR 4 leaves it IDLE", wrong, wrong.field(0, 1, 3, true), 1);
    }

    private static void feeds() {
        says("The next n bytes (1..4), that of the lowest 8 bits first: how many frames came to their end by them; BAD "
                + "for another n");
        for (int n : new int[] {-4, -1, 0, 5, 6, 8}) {
            edge("n is " + n, SOME, SOME.feed(64, n), BAD);
        }
        for (int n : FAR) {
            edge("n is " + n, SOME, SOME.feed(64, n), BAD);
        }
        // A PING whose bytes are told by n at a time; those above n must not count.
        edge("n is 1", SOME, SOME.feed(-255, 1).feed(-252, 1).feed(-256, 1).feed(-256, 1).feed(-247, 1), 1,
                "OUT=1 4 1 0 9");
        edge("n is 2", SOME, SOME.feed(0xFFFF0401, 2).feed(0xFFFF0000, 2).feed(0xFFFFFF09, 1), 1, "OUT=1 4 1 0 9");
        edge("n is 3", SOME, SOME.feed(0xFF000401, 3).feed(0xFFFF0900, 2), 1, "OUT=1 4 1 0 9");
        edge("n is 4", SOME, SOME.feed(0x00000401, 4).feed(0xFFFFFF09, 1), 1, "OUT=1 4 1 0 9");
        edge("n is 4, with the highest bit", SOME, SOME.bytes(4, AWAY, 0, 0).feed(0xFF00FF80, 4), 1);
        edge("a BAD one between them", SOME, SOME.bytes(1, PING).feed(0, 0).feed(0, 5).bytes(0, 0, 9), 1,
                "OUT=1 4 1 0 9");
        edge("no frame ends", SOME, SOME.bytes(1, PING, 0, 0), 0);
        edge("one frame ends in the first of four bytes", SOME, SOME.bytes(1, PING, 0, 0).bytes(9, 1, 4, 0), 1,
                "OUT=1 4 1 0 9");
        edge("one frame ends in the last of four bytes", SOME, SOME.bytes(0, AWAY, 0, 0), 1);
    }

    private static void feedBeforeDown() {
        says("feed: BAD is tested before DOWN.");
        edge("n is 0", DEAD, DEAD.feed(0, 0), BAD);
        edge("n is 5", DEAD, DEAD.feed(0, 5), BAD);
        edge("n is 1", DEAD, DEAD.feed(0, 1), DOWN);
        edge("n is 4", DEAD, DEAD.feed(0, 4), DOWN);
    }

    private static void feedsThatBringItDown() {
        says("DOWN if the connection is so, or comes to be");
        int[][] wrong = {{64, 0, 0, 3}, {1, DATA, 0, 1}, {63, DATA, 0, 3}, {1, HEADERS, 0, 1}, {0, RESET, 0, 3}};
        int[] codes = {1, 2, 3, 2, 1};
        // What may come in of the connection is 62 now.
        Run less = SOME.data(6, anyData(23)).drain();
        for (int k = 0; k < wrong.length; k++) {
            edge("by a head: " + text(wrong[k]), less, less.bytes(wrong[k]), DOWN, down(codes[k]));
            edge("before its last byte: " + text(wrong[k]), less, less.bytes(wrong[k][0], wrong[k][1], 0), 0);
            edge("by its last byte: " + text(wrong[k]), less,
                    less.bytes(wrong[k][0], wrong[k][1], 0).bytes(wrong[k][3]), DOWN, down(codes[k]));
        }
        edge("by the end of WINDOW", SOME, SOME.bytes(1, WINDOW, 0, 0).bytes(0), DOWN, down(2));
        edge("by the end of WINDOW, with bytes behind it", SOME, SOME.bytes(1, WINDOW, 0, 0).bytes(0, 1, 4, 0), DOWN,
                down(2));
        edge("by the end of HEADERS", SOME, SOME.bytes(1, HEADERS, 0, 7).bytes(128, 1, 4), DOWN, down(4));
        edge("a second time", DEAD, DEAD.bytes(64, 0, 0, 3), DOWN);

        says("When the CONNECTION is DOWN, state, code and window of the streams stay as they are.");
        Run waits = SOME.message(6, join(row(18, 90), times(90, 1))).answer(6).finish(6).frame(WINDOW, 0, 4, 9)
                .grant(4, 8).data(3, 0, 0, 2, 8).drain();
        edge("code 1", waits, waits.bytes(64, 9, 0, 9), DOWN, down(1));
        edge("code 2", waits, waits.bytes(0, DATA, END, 7), DOWN, down(2));
        Run few = waits.data(2, times(50, 0));
        edge("code 3", few, few.bytes(37, DATA, END, 3), DOWN, down(3));
        edge("code 3 of a window", waits, waits.frame(WINDOW, 0, 0, 255), DOWN, down(3));
        edge("code 4", waits, waits.frame(HEADERS, END, 3, 128), DOWN, down(4));
    }

    private static void errorsOfTheStream() {
        says("ERRORS 6, 7, 8 and 9 are of the stream.");
        edge("6", SOME, SOME.frame(HEADERS, 0, 7, 1, 4), 1,
                shut(7, 6, "headers(7)=260", "coming(7)=60", "sending(7)=60"));
        edge("7", SOME, SOME.data(6, 1), 1, shut(6, 7, "coming(0)=84", "coming(6)=59"));
        edge("8", SOME, SOME.data(6, 0, 0, 201), 1, shut(6, 8, "coming(0)=82", "coming(6)=57"));
        edge("9", SOME, SOME.frame(DATA, END, 6, 0), 1, shut(6, 9, "coming(0)=84", "coming(6)=59"));
        Run wrong = SOME.data(6, 1).drain();
        edge("others go on", wrong, wrong.data(3, 0, 0, 2, 8, 6), 1, "coming(0)=79", "coming(3)=40", "messages(3)=2",
                "message(3)=0{1=6}", "size(3)=2");
    }

    private static void grantsFromOneTo255() {
        says("What may come in of a stream (or the connection, 0) is n more (1..255), and (1, 3, 0, s, n) is sent: the "
                + "window.");
        Run none = new Run().open(1, 0).data(1, anyData(60)).drain();
        Run less = none.open(2, 0).data(2, anyData(40)).drain();
        for (int s = 0; s <= 1; s++) {
            edge("0 to " + s, less, less.grant(s, 0), BAD);
            edge("-1 to " + s, less, less.grant(s, -1), BAD);
            edge("1 to " + s, less, less.grant(s, 1), 1, "coming(" + s + ")=1", "OUT=1 3 0 " + s + " 1");
            edge("254 to " + s, less, less.grant(s, 254), 254, "coming(" + s + ")=254", "OUT=1 3 0 " + s + " 254");
            edge("255 to " + s, less, less.grant(s, 255), 255, "coming(" + s + ")=255", "OUT=1 3 0 " + s + " 255");
            edge("256 to " + s, less, less.grant(s, 256), BAD);
            for (int n : FAR) {
                edge(n + " to " + s, less, less.grant(s, n), BAD);
            }
        }
    }

    private static void grantsUpTo255() {
        says("or the window would be above 255");
        Run open = new Run().open(1, 0);
        edge("254 then", open, open.grant(1, 194), 254, "coming(1)=254", "OUT=1 3 0 1 194");
        edge("255 then", open, open.grant(1, 195), 255, "coming(1)=255", "OUT=1 3 0 1 195");
        edge("256 then", open, open.grant(1, 196), BAD);
        edge("315 then", open, open.grant(1, 255), BAD);
        edge("254 then, the connection", open, open.grant(0, 154), 254, "coming(0)=254", "OUT=1 3 0 0 154");
        edge("255 then, the connection", open, open.grant(0, 155), 255, "coming(0)=255", "OUT=1 3 0 0 155");
        edge("256 then, the connection", open, open.grant(0, 156), BAD);
        Run full = open.grant(0, 155).grant(1, 195).drain();
        edge("1 more", full, full.grant(1, 1), BAD);
        edge("1 more, the connection", full, full.grant(0, 1), BAD);
    }

    private static void grantsToOthers() {
        says("DOWN; else BAD (and nothing changes) if s is not 0 or OPEN");
        for (int s : new int[] {-1, 1, 2, 7, 8}) {
            edge("to " + s, SOME, SOME.grant(s, 1), BAD);
        }
        for (int s : FAR) {
            edge("to " + s, SOME, SOME.grant(s, 1), BAD);
        }
        for (int s = 3; s <= 6; s++) {
            int window = SOME.desk().window(s, false) + 1;
            edge("to " + s, SOME, SOME.grant(s, 1), window, "coming(" + s + ")=" + window, "OUT=1 3 0 " + s + " 1");
        }
        for (int s : new int[] {-1, 0, 1, 2, 3, 8}) {
            edge("DOWN, to " + s, DEAD, DEAD.grant(s, 1), DOWN);
            edge("DOWN before BAD, to " + s, DEAD, DEAD.grant(s, 0), DOWN);
        }
    }

    private static void answers() {
        says("The latest message of a stream, written again, comes behind its QUEUE, with three bytes 0, length "
                + "(higher byte first) before it: how many bytes the message has.");
        edge("a message", SOME, SOME.answer(3), 12, "sending(0)=85", "sending(3)=45",
                "OUT=15 0 0 3 0 0 12 8 5 18 2 8 9 26 0 34 2 3 4");
        Run empty = SOME.data(6, 0, 0, 0);
        edge("an empty one", empty, empty.answer(6), 0, "sending(0)=97", "sending(6)=57", "OUT=3 0 0 6 0 0 0");
        Run ended = SOME.frame(DATA, END, 6, 0, 0, 0);
        edge("when the other side ENDED", ended, ended.answer(6), 0, "sending(0)=97", "sending(6)=57",
                "OUT=3 0 0 6 0 0 0");
        // 25 INTs of five bytes become 25 of ten.
        Run wide = SOME.message(6, join(row(34, 125), times(25, 255, 255, 255, 255, 15))).drain();
        edge("253 bytes", wide, wide.answer(6), 253, "sending(0)=40", "sending(6)=0",
                "OUT=16 0 0 6 0 0 253 34 250 1 255*9 1 16 0 0 6 255*9 1 255*6 16 0 0 6 255 255 255 1 255*9 1 255 255 "
                + "12 0 0 6 255*7 1 255*4");
        Run wider = SOME.message(6, join(row(34, 130, 1), times(26, 255, 255, 255, 255, 15))).frame(WINDOW, 0, 6, 195)
                .frame(WINDOW, 0, 0, 155).drain();
        edge("263 bytes, the higher byte is 1", wider, wider.answer(6).drain(), 319, "sending(0)=0", "sending(6)=0");
        same("the higher byte", wider.answer(6).desk().out(5), 1);
        same("the lower byte", wider.answer(6).desk().out(6), 7);

        says("answer: the bytes that it answers are those of the message as it is written again, as size answers "
                + "them.");
        same("size of an empty one", empty.desk().size(6), 0);
        same("size of 263", wider.desk().size(6), 263);
        same("size of the first", SOME.desk().size(3), 12);
    }

    private static void answersThatAreBad() {
        says("DOWN; else BAD if it is not OPEN, is to FINISH, or there is no message; FULL if there is no room.");
        for (int s : new int[] {-1, 0, 1, 2, 7, 8}) {
            edge("of " + s, SOME, SOME.answer(s), BAD);
            edge("DOWN, of " + s, DEAD, DEAD.answer(s), DOWN);
        }
        for (int s : FAR) {
            edge("of " + s, SOME, SOME.answer(s), BAD);
            edge("DOWN, of " + s, DEAD, DEAD.answer(s), DOWN);
        }
        edge("no message", SOME, SOME.answer(6), BAD);
        edge("no message of one that ENDED", SOME, SOME.answer(4), BAD);
        Run late = SOME.data(5, 0, 0, 0);
        edge("this side ENDED, with a message", late, late.answer(5), BAD);
        Run shut = SOME.cancel(3, 20).drain();
        edge("SHUT, with a message", shut, shut.answer(3), BAD);
        edge("DOWN, with a message", DEAD, DEAD.answer(3), DOWN);
        // 60 bytes go, 40 wait, then 400 and then none have room.
        Run full = new Run().field(0, 2, 3, false).open(3, 0).message(3, join(row(18, 95), times(95, 1))).answer(3)
                .answer(3).answer(3).answer(3).answer(3).drain();
        edge("FULL", full, full.answer(3), FULL);
        Run ending = full.finish(3);
        edge("to FINISH goes before FULL", ending, ending.answer(3), BAD);
        Run half = full.grant(0, 50).grant(3, 50).data(3, 0, 0, 2).drain();
        edge("no message goes before FULL", half, half.answer(3), BAD);
    }

    private static void answersOfTheNextOne() {
        says("answer: BAD also while the three bytes of the next message are there and that is not whole (there is no "
                + "message then).");
        Run next = SOME.bytes(5, DATA, 0, 3);
        String[] sent = {"sending(0)=85", "sending(3)=45", "OUT=15 0 0 3 0 0 12 8 5 18 2 8 9 26 0 34 2 3 4"};
        edge("no byte of it", next, next.answer(3), 12, sent);
        edge("one byte", next, next.bytes(0).answer(3), 12, sent);
        edge("two bytes", next, next.bytes(0, 0).answer(3), 12, sent);
        Run three = next.bytes(0, 0, 2);
        edge("three bytes", three, three.answer(3), BAD);
        Run four = three.bytes(8);
        edge("all but one", four, four.answer(3), BAD);
        Run whole = four.bytes(9);
        edge("whole", whole, whole.answer(3), 2, "sending(0)=95", "sending(3)=55", "OUT=5 0 0 3 0 0 2 8 9");
    }

    private static void finishes() {
        says("A stream is to FINISH: true. False if it is not OPEN, is so already, or the connection is DOWN.");
        for (int s : new int[] {-1, 0, 1, 2, 7, 8}) {
            edge("of " + s, SOME, SOME.finish(s), 0);
        }
        for (int s : FAR) {
            edge("of " + s, SOME, SOME.finish(s), 0);
            edge("DOWN, of " + s, DEAD, DEAD.finish(s), 0);
        }
        edge("OPEN", SOME, SOME.finish(3), 1, "state(3)=3", "OUT=0 0 1 3");
        edge("the other side ENDED", SOME, SOME.finish(4), 1, "state(4)=4", "OUT=0 0 1 4");
        edge("this side ENDED", SOME, SOME.finish(5), 0);
        for (int s = 0; s <= 8; s++) {
            edge("DOWN, of " + s, DEAD, DEAD.finish(s), 0);
        }
        Run waits = new Run().field(0, 2, 3, false).open(3, 0).message(3, join(row(18, 95), times(95, 1))).answer(3)
                .drain();
        edge("bytes wait", waits, waits.finish(3), 1);
        edge("it is so already, and bytes wait", waits, waits.finish(3).finish(3), 0);
    }

    private static void cancels() {
        says("An ERROR of an OPEN stream, with a code 20..99. False if it is not OPEN, the code outside, or the "
                + "connection is DOWN.");
        for (int s = 3; s <= 6; s++) {
            edge("code 19 of " + s, SOME, SOME.cancel(s, 19), 0);
            edge("code 20 of " + s, SOME, SOME.cancel(s, 20), 1, shut(s, 20));
            edge("code 21 of " + s, SOME, SOME.cancel(s, 21), 1, shut(s, 21));
            edge("code 98 of " + s, SOME, SOME.cancel(s, 98), 1, shut(s, 98));
            edge("code 99 of " + s, SOME, SOME.cancel(s, 99), 1, shut(s, 99));
            edge("code 100 of " + s, SOME, SOME.cancel(s, 100), 0);
            edge("code 0 of " + s, SOME, SOME.cancel(s, 0), 0);
            edge("code -20 of " + s, SOME, SOME.cancel(s, -20), 0);
            edge("DOWN, of " + s, DEAD, DEAD.cancel(s, 20), 0);
            for (int code : FAR) {
                edge("code " + code + " of " + s, SOME, SOME.cancel(s, code), 0);
            }
        }
        for (int s : new int[] {-1, 0, 1, 2, 7, 8}) {
            edge("of " + s, SOME, SOME.cancel(s, 20), 0);
            edge("DOWN, of " + s, DEAD, DEAD.cancel(s, 20), 0);
        }
        for (int s : FAR) {
            edge("of " + s, SOME, SOME.cancel(s, 20), 0);
        }
    }

    private static void states() {
        says("Of a stream 0 IDLE, 1 OPEN, 2 the other side ENDED, 3 this side did, 4 SHUT; of the connection (0) 1, or "
                + "4 if it is DOWN; BAD for others.");
        int[] due = {1, 0, 4, 1, 2, 3, 1, 0};
        for (int s = 0; s <= 7; s++) {
            int number = s;
            look("state of " + s, SOME, due[s], x -> x.state(number));
            look("state of " + s + " when it is DOWN", DEAD, s == 0 ? 4 : due[s], x -> x.state(number));
        }
        others((x, s) -> x.state(s), BAD);
    }

    /** A look by a number that may be no stream's. */
    private interface Look {
        int at(Desk desk, int number);
    }

    private static void others(Look look, int due) {
        for (int s : new int[] {-1, 8, 9, 16, 255}) {
            look("of " + s, SOME, due, x -> look.at(x, s));
            look("of " + s + " when it is DOWN", DEAD, due, x -> look.at(x, s));
        }
        for (int s : FAR) {
            look("of " + s, SOME, due, x -> look.at(x, s));
        }
    }

    private static void codes() {
        says("The code of a stream (or the connection), 0 if there is none; BAD for others.");
        int[] due = {0, 0, 107, 0, 0, 0, 0, 0};
        for (int s = 0; s <= 7; s++) {
            int number = s;
            look("code of " + s, SOME, due[s], x -> x.code(number));
            look("code of " + s + " when it is DOWN", DEAD, s == 0 ? 1 : due[s], x -> x.code(number));
        }
        others((x, s) -> x.code(s), BAD);
    }

    private static void windows() {
        says("The window of a stream (or the connection) for sending, or else for what comes in; 0 for one that is "
                + "IDLE; BAD for others.");
        int[] in = {85, 0, 60, 45, 60, 60, 60, 0};
        int[] out = {100, 0, 60, 60, 60, 60, 60, 0};
        for (int s = 0; s <= 7; s++) {
            int number = s;
            look("coming, of " + s, SOME, in[s], x -> x.window(number, false));
            look("sending, of " + s, SOME, out[s], x -> x.window(number, true));
            look("coming, of " + s + " when it is DOWN", DEAD, in[s], x -> x.window(number, false));
            look("sending, of " + s + " when it is DOWN", DEAD, out[s], x -> x.window(number, true));
        }
        others((x, s) -> x.window(s, true), BAD);
        others((x, s) -> x.window(s, false), BAD);
    }

    private static void headers() {
        says("Header k of a stream as 256 * name + value; -1 if there is none.");
        look("0", SOME, 256, x -> x.header(3, 0));
        look("1", SOME, 519, x -> x.header(3, 1));
        look("2", SOME, -1, x -> x.header(3, 2));
        look("-1", SOME, -1, x -> x.header(3, -1));
        Run full = SOME.frame(HEADERS, END, 3, times(9, 132));
        look("7 of eight", full, 259, x -> x.header(3, 7));
        look("8 of eight", full, -1, x -> x.header(3, 8));
        // What would be the next stream's first one.
        look("8 of another one", SOME, -1, x -> x.header(2, 8));
        look("-8 of another one", SOME, -1, x -> x.header(4, -8));
        for (int k : FAR) {
            look("" + k, full, -1, x -> x.header(3, k));
        }
        for (int s : new int[] {0, 1, 7}) {
            look("of " + s, SOME, -1, x -> x.header(s, 0));
        }
        others((x, s) -> x.header(s, 0), -1);
    }

    private static void tables() {
        says("Header k of the TABLE (0 the newest) likewise. k = -1: MOST.");
        look("-2", SOME, -1, x -> x.table(-2));
        look("-1", SOME, 16, x -> x.table(-1));
        look("0", SOME, 519, x -> x.table(0));
        look("1", SOME, -1, x -> x.table(1));
        Run full = SOME.frame(HEADERS, END, 3, times(20, 67, 9));
        look("15 of sixteen", full, 777, x -> x.table(15));
        look("16 of sixteen", full, -1, x -> x.table(16));
        look("MOST", full.frame(HEADERS, END, 2, 32), 0, x -> x.table(-1));
        look("0 with MOST 0", full.frame(HEADERS, END, 2, 32), -1, x -> x.table(0));
        for (int k : FAR) {
            look("" + k, full, -1, x -> x.table(k));
        }
    }

    private static void nodesAndFields() {
        says("The type of a node; -1.");
        look("-1", SOME, -1, x -> x.typeOf(3, -1));
        look("0", SOME, 0, x -> x.typeOf(3, 0));
        look("1", SOME, 1, x -> x.typeOf(3, 1));
        look("2", SOME, -1, x -> x.typeOf(3, 2));
        look("nodes", SOME, 2, x -> x.nodes(3));
        // What would be a node of the stream beside it.
        look("16 of another one", SOME, -1, x -> x.typeOf(2, 16));
        look("-16 of another one", SOME, -1, x -> x.typeOf(4, -16));
        for (int node : FAR) {
            look("node " + node, SOME, -1, x -> x.typeOf(3, node));
        }

        says("How many values a field of a node has.");
        int[] due = {0, 1, 1, 1, 2, 0, 0, 0, 0, 0, 0, 0, 0, 0, 0, 0, 0, 0};
        for (int number = 0; number <= 17; number++) {
            int n = number;
            look("number " + n, SOME, due[n], x -> x.many(3, 0, n));
            look("number " + n + " of node 1", SOME, 0, x -> x.many(3, 1, n));
            look("number " + n + " of node 2", SOME, 0, x -> x.many(3, 2, n));
            look("number " + n + " of node -1", SOME, 0, x -> x.many(3, -1, n));
        }
        for (int n : FAR) {
            look("number " + n, SOME, 0, x -> x.many(3, 0, n));
            look("node " + n, SOME, 0, x -> x.many(3, n, 1));
        }
        // What would be number 1 of node 0, and number 15 of node 0.
        look("number -15 of node 1", SOME, 0, x -> x.many(3, 1, -15));
        look("number 17 of node -1", SOME, 0, x -> x.many(3, -1, 17));
    }

    private static void values() {
        says("the int; of BYTES how many; of a PART its node; 0 if there is none");
        look("an INT", SOME, 5, x -> x.value(3, 0, 1, 0));
        look("BYTES", SOME, 2, x -> x.value(3, 0, 2, 0));
        look("a PART", SOME, 1, x -> x.value(3, 0, 3, 0));
        look("the first of two", SOME, 3, x -> x.value(3, 0, 4, 0));
        look("the second of two", SOME, 4, x -> x.value(3, 0, 4, 1));
        look("the third of two", SOME, 0, x -> x.value(3, 0, 4, 2));
        look("-1", SOME, 0, x -> x.value(3, 0, 4, -1));
        for (int i : FAR) {
            look("value " + i, SOME, 0, x -> x.value(3, 0, 4, i));
            look("number " + i, SOME, 0, x -> x.value(3, 0, i, 0));
            look("node " + i, SOME, 0, x -> x.value(3, i, 1, 0));
        }
        for (int number : new int[] {-15, -1, 0, 5, 15, 16, 17}) {
            look("number " + number, SOME, 0, x -> x.value(3, 0, number, 0));
            look("number " + number + " of node 1", SOME, 0, x -> x.value(3, 1, number, 0));
        }
        look("node 2", SOME, 0, x -> x.value(3, 2, 1, 0));
        look("node -1", SOME, 0, x -> x.value(3, -1, 1, 0));
    }

    private static void bytesOfValues() {
        says("Byte k of the i-th value of a field of BYTES; -1 if there is none.");
        look("-1", SOME, -1, x -> x.byteOf(3, 0, 2, 0, -1));
        look("0", SOME, 8, x -> x.byteOf(3, 0, 2, 0, 0));
        look("1", SOME, 9, x -> x.byteOf(3, 0, 2, 0, 1));
        look("2", SOME, -1, x -> x.byteOf(3, 0, 2, 0, 2));
        look("of value 1", SOME, -1, x -> x.byteOf(3, 0, 2, 1, 0));
        look("of value -1", SOME, -1, x -> x.byteOf(3, 0, 2, -1, 0));
        look("of an INT", SOME, -1, x -> x.byteOf(3, 0, 1, 0, 0));
        look("of a PART", SOME, -1, x -> x.byteOf(3, 0, 3, 0, 0));
        look("of REPEATED INT", SOME, -1, x -> x.byteOf(3, 0, 4, 0, 0));
        look("of no field", SOME, -1, x -> x.byteOf(3, 0, 5, 0, 0));
        look("of number 0", SOME, -1, x -> x.byteOf(3, 0, 0, 0, 0));
        look("of number 16", SOME, -1, x -> x.byteOf(3, 0, 16, 0, 0));
        look("of node 1", SOME, -1, x -> x.byteOf(3, 1, 2, 0, 0));
        look("of node 2", SOME, -1, x -> x.byteOf(3, 2, 2, 0, 0));
        look("of node -1", SOME, -1, x -> x.byteOf(3, -1, 2, 0, 0));
        for (int n : FAR) {
            look("byte " + n, SOME, -1, x -> x.byteOf(3, 0, 2, 0, n));
            look("value " + n, SOME, -1, x -> x.byteOf(3, 0, 2, n, 0));
            look("number " + n, SOME, -1, x -> x.byteOf(3, 0, n, 0, 0));
            look("node " + n, SOME, -1, x -> x.byteOf(3, n, 2, 0, 0));
        }
        Run empty = SOME.data(6, 0, 0, 2, 18, 0);
        look("0 of an empty one", empty, -1, x -> x.byteOf(6, 0, 2, 0, 0));
        Run zero = SOME.data(6, 0, 0, 4, 18, 2, 0, 255);
        look("a byte that is 0", zero, 0, x -> x.byteOf(6, 0, 2, 0, 0));
        look("a byte that is 255", zero, 255, x -> x.byteOf(6, 0, 2, 0, 1));
    }

    private static void noStreams() {
        says("For a number that is no stream (0 neither) messages, nodes, many, value, skipped and size are 0, header, "
                + "typeOf and byteOf -1");
        Look[] zeros = {(x, s) -> x.messages(s), (x, s) -> x.nodes(s), (x, s) -> x.many(s, 0, 1),
            (x, s) -> x.value(s, 0, 1, 0), (x, s) -> x.skipped(s), (x, s) -> x.size(s)};
        Look[] minus = {(x, s) -> x.header(s, 0), (x, s) -> x.typeOf(s, 0), (x, s) -> x.byteOf(s, 0, 2, 0, 0)};
        for (Look look : zeros) {
            others(look, 0);
            look("0", SOME, 0, x -> look.at(x, 0));
            look("an IDLE one", SOME, 0, x -> look.at(x, 1));
            look("one without a message", SOME, 0, x -> look.at(x, 6));
        }
        for (Look look : minus) {
            others(look, -1);
            look("0", SOME, -1, x -> look.at(x, 0));
            look("an IDLE one", SOME, -1, x -> look.at(x, 7));
        }
    }

    private static void outs() {
        says("Byte k of OUT; k = -1: how many bytes it has; -1 if there is none.");
        look("-1 of none", SOME, 0, x -> x.out(-1));
        look("0 of none", SOME, -1, x -> x.out(0));
        Run four = SOME.finish(3);
        look("-2", four, -1, x -> x.out(-2));
        look("-1", four, 4, x -> x.out(-1));
        look("0", four, 0, x -> x.out(0));
        look("3", four, 3, x -> x.out(3));
        look("4", four, -1, x -> x.out(4));
        for (int k : FAR) {
            look("" + k, four, -1, x -> x.out(k));
        }
        // What is behind the end after drain was there before.
        look("0 after drain", four.drain(), -1, x -> x.out(0));
        look("4 after drain and four more", four.drain().finish(6), -1, x -> x.out(4));
    }

    private static void theLastOfAllCalls() {
        says("An object is used for at most 512 calls after it has been made");
        Run used = SOME;
        while (used.length() < 510) {
            used = used.grant(-1, 0);
        }
        same("call 511", used.answer(3).last(), 12);
        Desk desk = used.answer(3).desk();
        same("calls that are left", desk.left(), 1);
        same("call 512", desk.out(-1), 19);
        same("call 512, which changes something", used.answer(3).grant(3, 9).last(), 54);
    }
}
