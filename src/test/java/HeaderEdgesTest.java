import java.util.stream.IntStream;

/** The sentences on headers and their table, and on what HEADERS do to a stream, each at its edges. */
public final class HeaderEdgesTest extends Edges {
    /** Stream 2 is SHUT with code 107, streams 3 and 5 are OPEN; the TABLE is empty. */
    private static final Run SOME = new Run().open(2, 0).open(3, 0).open(5, 1).frame(RESET, 0, 2, 7).drain();

    public static void main(String[] args) {
        namesAndValues();
        tableOfSixteen();
        onesThatAreThere();
        onesForTheTable();
        onesNotForTheTable();
        mostFromZeroToSixteen();
        tooManyGo();
        mostZero();
        wrongRows();
        doneBeforeTheError();
        theFirstEight();
        idleOnesOpen();
        types();
        headersOfOpenOnes();
        headersOfShutOnes();
        endsOfTheOtherSide();
        longestPayload();
        Check.end();
    }

    private static int pair(int name, int value) {
        return 256 * name + value;
    }

    /** Pairs (2, from), (2, from + 1) and so on, for the TABLE. */
    private static int[] entries(int from, int n) {
        return IntStream.range(from, from + n).flatMap(v -> IntStream.of(66, v)).toArray();
    }

    /** The TABLE when the pairs from..to came into it, the newest first. */
    private static String tableOf(int from, int to) {
        return "TABLE=" + text(IntStream.rangeClosed(from, to).map(k -> pair(2, to - (k - from))).toArray());
    }

    /** HEADERS with END of stream 2, which is SHUT, so that the TABLE alone counts. */
    private static Run table(Run run, int... payload) {
        return run.frame(HEADERS, END, 2, payload);
    }

    private static void namesAndValues() {
        says("HEADERS are (name, value), 0..255.");
        int[][] all = {{0, 0}, {0, 255}, {1, 0}, {1, 255}, {31, 1}, {32, 1}, {63, 1}, {64, 1}, {255, 0}, {255, 255}};
        for (int[] one : all) {
            String what = "(" + one[0] + ", " + one[1] + ")";
            int number = pair(one[0], one[1]);
            edge(what, SOME, SOME.frame(HEADERS, END, 3, 0, one[0], one[1]), 1, "state(3)=2",
                    "headers(3)=256 " + number);
            edge(what + " for the TABLE", SOME, SOME.frame(HEADERS, END, 3, 64, one[0], one[1]), 1, "state(3)=2",
                    "headers(3)=256 " + number, "TABLE=" + number);
        }
    }

    private static void tableOfSixteen() {
        says("The TABLE has at most MOST of them, 16 at first, the newest first.");
        edge("none", SOME, table(SOME), 1);
        edge("one", SOME, table(SOME, entries(1, 1)), 1, tableOf(1, 1));
        edge("two", SOME, table(SOME, entries(1, 2)), 1, tableOf(1, 2));
        edge("15", SOME, table(SOME, entries(1, 15)), 1, tableOf(1, 15));
        edge("16", SOME, table(SOME, entries(1, 16)), 1, tableOf(1, 16));
        edge("17", SOME, table(SOME, entries(1, 17)), 1, tableOf(2, 17));
        Run full = table(SOME, entries(1, 16));
        edge("one more in another payload", full, table(full, entries(17, 1)), 1, tableOf(2, 17));
        edge("31 at once", full, table(full, entries(100, 31)), 1, tableOf(115, 130));
        edge("the same pair twice", SOME, table(SOME, 66, 9, 66, 9), 1, "TABLE=521 521");
    }

    private static void onesThatAreThere() {
        says("128 + i: one that is there, i 1..4 is (1, i - 1), i above that number i - 5 of the TABLE");
        Run two = table(SOME, entries(1, 2));
        edge("i is 0", two, table(two, 128), DOWN, down(4));
        for (int i = 1; i <= 4; i++) {
            edge("i is " + i, two, two.frame(HEADERS, END, 3, 128 + i), 1, "state(3)=2", "headers(3)=256 " + (255 + i));
            edge("i is " + i + " with an empty TABLE", SOME, SOME.frame(HEADERS, END, 3, 128 + i), 1, "state(3)=2",
                    "headers(3)=256 " + (255 + i));
        }
        edge("i is 5, the newest", two, two.frame(HEADERS, END, 3, 133), 1, "state(3)=2", "headers(3)=256 514");
        edge("i is 6, the oldest", two, two.frame(HEADERS, END, 3, 134), 1, "state(3)=2", "headers(3)=256 513");
        edge("i is 7, one too many", two, two.frame(HEADERS, END, 3, 135), DOWN, down(4));
        edge("i is 5 with an empty TABLE", SOME, SOME.frame(HEADERS, END, 3, 133), DOWN, down(4));
        Run full = table(SOME, entries(1, 17));
        edge("i is 20 with a full TABLE", full, full.frame(HEADERS, END, 3, 148), 1, "state(3)=2",
                "headers(3)=256 514");
        edge("i is 21 with a full TABLE", full, full.frame(HEADERS, END, 3, 149), DOWN, down(4));
        edge("i is 127 with a full TABLE", full, full.frame(HEADERS, END, 3, 255), DOWN, down(4));
        Run zero = table(SOME, 64, 0, 0);
        edge("(0, 0) of the TABLE", zero, zero.frame(HEADERS, END, 3, 133), 1, "state(3)=2", "headers(3)=256 0");
        edge("one that just came", SOME, SOME.frame(HEADERS, END, 3, 66, 9, 133), 1, "state(3)=2",
                "headers(3)=256 521 521", "TABLE=521");
    }

    private static void onesForTheTable() {
        says("64 + n: name n, or if n is 0 the next byte, then a byte for the value; it comes into the TABLE");
        edge("n is 0", SOME, SOME.frame(HEADERS, END, 3, 64, 7, 8), 1, "state(3)=2", "headers(3)=256 1800",
                "TABLE=1800");
        edge("n is 1", SOME, SOME.frame(HEADERS, END, 3, 65, 8), 1, "state(3)=2", "headers(3)=256 264", "TABLE=264");
        edge("n is 62", SOME, SOME.frame(HEADERS, END, 3, 126, 8), 1, "state(3)=2", "headers(3)=256 15880",
                "TABLE=15880");
        edge("n is 63", SOME, SOME.frame(HEADERS, END, 3, 127, 8), 1, "state(3)=2", "headers(3)=256 16136",
                "TABLE=16136");
        edge("n would be 64: i is 0", SOME, SOME.frame(HEADERS, END, 3, 128, 8), DOWN, down(4));
    }

    private static void onesNotForTheTable() {
        says("n below 32: the same, but it does not come into the TABLE");
        edge("n is 0", SOME, SOME.frame(HEADERS, END, 3, 0, 7, 8), 1, "state(3)=2", "headers(3)=256 1800");
        edge("n is 1", SOME, SOME.frame(HEADERS, END, 3, 1, 8), 1, "state(3)=2", "headers(3)=256 264");
        edge("n is 31", SOME, SOME.frame(HEADERS, END, 3, 31, 8), 1, "state(3)=2", "headers(3)=256 7944");
        edge("32 is no name but MOST", SOME, SOME.frame(HEADERS, END, 3, 32), 1, "state(3)=2", "MOST=0");
    }

    private static void mostFromZeroToSixteen() {
        says("32 + m: MOST becomes m, 0..16.");
        edge("m is 0", SOME, table(SOME, 32), 1, "MOST=0");
        edge("m is 1", SOME, table(SOME, 33), 1, "MOST=1");
        edge("m is 15", SOME, table(SOME, 47), 1, "MOST=15");
        edge("m is 16", SOME, table(SOME, 48), 1);
        edge("m is 17", SOME, table(SOME, 49), DOWN, down(4));
        edge("m is 31", SOME, table(SOME, 63), DOWN, down(4));
        edge("m is 17, and a byte behind it", SOME, table(SOME, 49, 5), DOWN, down(4));
        edge("m is 31, and a byte behind it", SOME, table(SOME, 63, 5), DOWN, down(4));
        Run three = table(SOME, 35);
        edge("m is 16 again", three, table(three, 48), 1, "MOST=16");
        edge("m is 17 after a smaller one", three, table(three, 49), DOWN, down(4));
        edge("several, of which the last one stays", SOME, table(SOME, 32, 48, 36, 39), 1, "MOST=7");
        Run full = table(table(SOME, 47), entries(1, 15));
        edge("the 16th of 15", full, table(full, entries(16, 1)), 1, tableOf(2, 16));
    }

    private static void tooManyGo() {
        says("What is too many goes, the oldest first");
        Run five = table(SOME, entries(1, 5));
        edge("MOST is one above", five, table(five, 38), 1, "MOST=6");
        edge("MOST is as many", five, table(five, 37), 1, "MOST=5");
        edge("MOST is one below", five, table(five, 36), 1, "MOST=4", tableOf(2, 5));
        edge("MOST is 1", five, table(five, 33), 1, "MOST=1", tableOf(5, 5));
        edge("MOST is 0", five, table(five, 32), 1, "MOST=0", "TABLE=");
        edge("what went does not come again", five, table(five, 33, 48), 1, tableOf(5, 5));
        Run four = table(five, 36);
        edge("one comes, one goes", four, table(four, entries(6, 1)), 1, tableOf(3, 6));
        edge("what went is not there", four, table(four, 137), DOWN, down(4));
        edge("the last that is there", four, four.frame(HEADERS, END, 3, 136), 1, "state(3)=2", "headers(3)=256 514");
        Run one = table(five, 33);
        edge("one of one", one, table(one, entries(6, 2)), 1, tableOf(7, 7));
    }

    private static void mostZero() {
        says("(with MOST 0 also what just came)");
        Run none = table(SOME, 32);
        edge("it does not stay", none, table(none, 66, 1), 1);
        edge("the stream keeps it", none, none.frame(HEADERS, END, 3, 66, 1), 1, "state(3)=2", "headers(3)=256 513");
        edge("it is not there", none, table(none, 66, 1, 133), DOWN, down(4));
        edge("it is not there when MOST is more again", none, table(none, 66, 1, 33), 1, "MOST=1");
        edge("those that are given are", none, none.frame(HEADERS, END, 3, 132), 1, "state(3)=2",
                "headers(3)=256 259");
    }

    private static void wrongRows() {
        says("None that i names, m above 16, or a payload that ends too soon: ERROR 4, of the CONNECTION");
        int[][] tooShort = {{64}, {64, 9}, {65}, {127}, {0}, {0, 9}, {1}, {31}};
        for (int[] row : tooShort) {
            edge("it ends too soon: " + text(row), SOME, table(SOME, row), DOWN, down(4));
            edge("before its end: " + text(row), SOME, SOME.bytes(row.length, HEADERS, 0, 2), 0);
        }
        edge("64, 9 and one byte more", SOME, table(SOME, 64, 9, 5), 1, "TABLE=2309");
        edge("65 and one byte more", SOME, table(SOME, 65, 5), 1, "TABLE=261");
        edge("127 and one byte more", SOME, table(SOME, 127, 5), 1, "TABLE=16133");
        edge("0, 9 and one byte more", SOME, table(SOME, 0, 9, 5), 1);
        edge("1 and one byte more", SOME, table(SOME, 1, 5), 1);
        edge("31 and one byte more", SOME, table(SOME, 31, 5), 1);
        edge("an empty payload does not end too soon", SOME, table(SOME), 1);
        edge("a byte that would be wrong alone, as a value", SOME, table(SOME, 66, 128), 1, "TABLE=640");
        edge("a byte that would be wrong alone, as a name", SOME, table(SOME, 64, 49, 0), 1, "TABLE=12544");
    }

    private static void doneBeforeTheError() {
        says("all before that is done");
        int[][] wrong = {{128}, {134}, {255}, {49}, {63}, {64}, {64, 9}, {66}, {0}, {0, 9}, {5}, {128, 66, 6, 33}};
        for (int[] row : wrong) {
            int[] payload = join(row(66, 5, 35, 130), row);
            edge("of an OPEN one: " + text(row), SOME, SOME.frame(HEADERS, END, 3, payload), DOWN,
                    down(4, "TABLE=517", "MOST=3", "headers(3)=256 517 257"));
            edge("of a SHUT one: " + text(row), SOME, SOME.frame(HEADERS, END, 2, payload), DOWN,
                    down(4, "TABLE=517", "MOST=3"));
            edge("of an IDLE one, which stays so: " + text(row), SOME, SOME.frame(HEADERS, 0, 6, payload), DOWN,
                    down(4, "TABLE=517", "MOST=3", "headers(6)=517 257"));
        }
        Run ended = SOME.frame(DATA, END, 3);
        edge("of one that ENDED: no error of the stream", ended, ended.frame(HEADERS, 0, 3, 2, 2, 128), DOWN,
                down(4, "headers(3)=256 514"));
    }

    private static void theFirstEight() {
        says("A stream keeps the first 8 of its headers, of all payloads.");
        String[] opened = {"state(6)=1", "coming(6)=60", "sending(6)=60"};
        int[] seven = {129, 2, 1, 2, 2, 2, 3, 2, 4, 2, 5, 2, 6};
        String kept = "headers(6)=256 513 514 515 516 517 518";
        Run first = SOME.frame(HEADERS, 0, 6, seven);
        edge("7", SOME, first, 1, join(opened, kept));
        edge("8", SOME, SOME.frame(HEADERS, 0, 6, join(seven, row(2, 7))), 1, join(opened, kept + " 519"));
        edge("9", SOME, SOME.frame(HEADERS, 0, 6, join(seven, row(2, 7, 2, 8))), 1, join(opened, kept + " 519"));
        edge("none more", first, first.frame(HEADERS, END, 6), 1, "state(6)=2");
        edge("1 more", first, first.frame(HEADERS, END, 6, 2, 7), 1, "state(6)=2", kept + " 519");
        edge("2 more", first, first.frame(HEADERS, END, 6, 2, 7, 2, 8), 1, "state(6)=2", kept + " 519");
        edge("2 more, of which one comes into the TABLE", first, first.frame(HEADERS, END, 6, 2, 7, 66, 8), 1,
                "state(6)=2", kept + " 519", "TABLE=520");
        edge("2 more, without END", first, first.frame(HEADERS, 0, 6, 131, 132), 1, shut(6, 2, kept + " 258"));
        edge("61 at once", SOME, SOME.frame(HEADERS, 0, 6, times(61, 130)), 1, join(opened, "headers(6)=257*8"));
        edge("other streams have their own", first, first.frame(HEADERS, END, 3, times(9, 132)), 1, "state(3)=2",
                "headers(3)=256 259*7");
    }

    private static void idleOnesOpen() {
        says("At its end HEADERS of an IDLE stream OPEN it: windows are 60");
        Run half = SOME.bytes(2, HEADERS, 0, 6).bytes(1);
        edge("one byte before its end", SOME, half, 0);
        edge("its end", SOME, half.bytes(3), 1, "state(6)=1", "coming(6)=60", "sending(6)=60", "headers(6)=259");
        edge("others keep their windows", SOME.data(3, 0), SOME.data(3, 0).open(6, 0), 1, "state(6)=1",
                "coming(6)=60", "sending(6)=60", "headers(6)=256");
    }

    private static void typed(String what, int type, int... payload) {
        Run open = SOME.frame(HEADERS, 0, 6, payload);
        same(what + ": state", open.desk().state(6), 1);
        edge(what, open, open.data(6, 0, 0, 0), 1, "coming(0)=97", "coming(6)=57", "messages(6)=1",
                "message(6)=" + type + "{}");
    }

    private static void types() {
        says("its TYPE is the value of its first header with name 1 in this payload, if that is 0..3, else ERROR 6");
        for (int type = 0; type <= 3; type++) {
            typed("(1, " + type + ")", type, 1, type);
            typed("one that is given, " + type, type, 129 + type);
            typed("(1, " + type + ") for the TABLE", type, 65, type);
            typed("(1, " + type + ") of the TABLE", type, 32, 48, 65, type, 133);
            typed("its name in a byte of its own, " + type, type, 0, 1, type);
        }
        for (int type : new int[] {4, 5, 128, 255}) {
            for (int flags = 0; flags <= 1; flags++) {
                edge("(1, " + type + ")", SOME, SOME.frame(HEADERS, flags, 6, 1, type), 1,
                        shut(6, 6, "coming(6)=60", "sending(6)=60", "headers(6)=" + (256 + type)));
            }
        }
        edge("no header", SOME, SOME.frame(HEADERS, 0, 6), 1, shut(6, 6, "coming(6)=60", "sending(6)=60"));
        edge("names 0 and 2", SOME, SOME.frame(HEADERS, 0, 6, 0, 0, 3, 2, 3), 1,
                shut(6, 6, "coming(6)=60", "sending(6)=60", "headers(6)=3 515"));
        edge("the first one is above 3", SOME, SOME.frame(HEADERS, 0, 6, 1, 4, 129), 1,
                shut(6, 6, "coming(6)=60", "sending(6)=60", "headers(6)=260 256"));
        typed("the first one is 0", 0, 129, 132, 1, 4);
        typed("the first one with name 1 is the second one", 3, 2, 1, 132);
        typed("it is the eighth header", 2, join(times(7, 2, 0), row(131)));
        typed("it is the ninth header", 2, join(times(8, 2, 0), row(131)));
        Run other = SOME.frame(HEADERS, END, 3, 130);
        edge("that of another payload does not count", other, other.frame(HEADERS, 0, 6, 2, 2), 1,
                shut(6, 6, "coming(6)=60", "sending(6)=60", "headers(6)=514"));
    }

    private static void headersOfOpenOnes() {
        says("Of an OPEN one: if the other side ENDED 5, without END 2, of the stream (headers are kept before that).");
        edge("with END", SOME, SOME.frame(HEADERS, END, 3, 2, 2), 1, "state(3)=2", "headers(3)=256 514");
        edge("without END", SOME, SOME.frame(HEADERS, 0, 3, 2, 2), 1, shut(3, 2, "headers(3)=256 514"));
        edge("without END, empty", SOME, SOME.frame(HEADERS, 0, 3), 1, shut(3, 2));
        edge("without END, not before its end", SOME, SOME.bytes(2, HEADERS, 0, 3).bytes(2), 0);
        edge("without END, another type", SOME, SOME.frame(HEADERS, 0, 3, 1, 9), 1, shut(3, 2, "headers(3)=256 265"));
        edge("with END, another type", SOME, SOME.frame(HEADERS, END, 3, 1, 9), 1, "state(3)=2", "headers(3)=256 265");
        Run ended = SOME.frame(DATA, END, 3);
        edge("ENDED, without END", ended, ended.frame(HEADERS, 0, 3, 2, 2), 1, shut(3, 5, "headers(3)=256 514"));
        edge("ENDED, with END", ended, ended.frame(HEADERS, END, 3, 66, 2), 1,
                shut(3, 5, "headers(3)=256 514", "TABLE=514"));
        Run ours = SOME.finish(3).drain();
        edge("this side ENDED, without END", ours, ours.frame(HEADERS, 0, 3, 2, 2), 1,
                shut(3, 2, "headers(3)=256 514"));
        edge("this side ENDED, with END", ours, ours.frame(HEADERS, END, 3, 2, 2), 1, "state(3)=4",
                "headers(3)=256 514");
    }

    private static void headersOfShutOnes() {
        says("Of one that is SHUT the TABLE alone counts.");
        Run some = SOME.frame(DATA, END, 3).finish(3).cancel(5, 20).drain();
        for (int s : new int[] {2, 3, 5}) {
            for (int flags = 0; flags <= 1; flags++) {
                edge("headers of " + s, some, some.frame(HEADERS, flags, s, 66, 1, 130, 2, 2, 36), 1, "TABLE=513",
                        "MOST=4");
                edge("none of " + s, some, some.frame(HEADERS, flags, s), 1);
                edge("a wrong row of " + s, some, some.frame(HEADERS, flags, s, 128), DOWN, down(4));
            }
        }
        Run half = SOME.bytes(4, HEADERS, END, 3).bytes(66, 1).cancel(3, 20).drain();
        edge("SHUT before its end", half, half.bytes(2, 2), 1, "TABLE=513");
    }

    private static void ends(String what, Run half, boolean whole) {
        String[] changes = whole ? new String[] {"state(3)=2"} : shut(3, 9);
        edge(what + ", by DATA", half, half.frame(DATA, END, 3), 1, changes);
        edge(what + ", by HEADERS", half, half.frame(HEADERS, END, 3), 1, changes);
        Run ours = half.finish(3).drain();
        String[] both = whole ? new String[] {"state(3)=4"} : shut(3, 9);
        edge(what + ", when this side ENDED", ours, ours.frame(DATA, END, 3), 1, both);
        edge(what + ", when this side ENDED, by HEADERS", ours, ours.frame(HEADERS, END, 3), 1, both);
    }

    private static void endsOfTheOtherSide() {
        says("END of DATA or HEADERS (if the stream is OPEN then): the other side ENDED; "
                + "ERROR 9 if a message, or the three bytes before one, are not whole.");
        ends("no byte", SOME, true);
        ends("one of the three bytes", SOME.data(3, 0), false);
        ends("two of the three bytes", SOME.data(3, 0, 0), false);
        ends("the three bytes of an empty message", SOME.data(3, 0, 0, 0), true);
        ends("the three bytes of another one", SOME.data(3, 0, 0, 2), false);
        ends("a message but for one byte", SOME.data(3, 0, 0, 2, 8), false);
        ends("a whole message", SOME.data(3, 0, 0, 2, 8, 1), true);
        ends("one byte of the next", SOME.data(3, 0, 0, 2, 8, 1, 0), false);
        ends("the longest message but for one byte", SOME.grant(0, 155).grant(3, 195).data(3, anyData(60))
                .data(3, times(60, 0)).data(3, times(60, 0)).data(3, times(22, 0)).drain(), false);
        ends("the longest message", SOME.grant(0, 155).grant(3, 195).data(3, anyData(60))
                .data(3, times(60, 0)).data(3, times(60, 0)).data(3, times(23, 0)).drain(), true);
        edge("in the same DATA as the last byte", SOME, SOME.frame(DATA, END, 3, 0, 0, 0), 1, "state(3)=2",
                "coming(0)=97", "coming(3)=57", "messages(3)=1", "message(3)=0{}");
        edge("in the same DATA as a byte too few", SOME, SOME.frame(DATA, END, 3, 0, 0), 1,
                shut(3, 9, "coming(0)=98", "coming(3)=58"));
        edge("another error was before", SOME, SOME.frame(DATA, END, 3, 1, 0), 1,
                shut(3, 7, "coming(0)=98", "coming(3)=58"));
        edge("of HEADERS that open", SOME, SOME.frame(HEADERS, END, 6, 129), 1, "state(6)=2", "coming(6)=60",
                "sending(6)=60", "headers(6)=256");

        says("An OPEN stream is SHUT, without an error, when both sides ENDED.");
        Run theirs = SOME.frame(DATA, END, 3);
        edge("this side last", theirs, theirs.finish(3), 1, "state(3)=4", "OUT=0 0 1 3");
        Run ours = SOME.finish(3).drain();
        edge("the other side last", ours, ours.frame(DATA, END, 3), 1, "state(3)=4");
        Run waits = new Run().field(0, 1, 3, false).open(1, 0).message(1, join(row(10, 100), times(100, 6))).answer(1)
                .drain();
        Run end = waits.finish(1);
        edge("this side is to FINISH, but bytes wait", waits, end, 1);
        edge("then the other side ENDED", end, end.frame(DATA, END, 1), 1, "state(1)=2");
        end = end.frame(DATA, END, 1);
        // 45 bytes wait.
        Run one = end.frame(WINDOW, 0, 0, 5).frame(WINDOW, 0, 1, 44).drain();
        edge("one byte waits yet", end, one, 56, "sending(0)=1");
        edge("none waits any more", one, one.frame(WINDOW, 0, 1, 1), 1, "state(1)=4", "sending(0)=0", "OUT=1 0 1 1 6");
    }

    private static void longestPayload() {
        says("A payload, read when it is whole, is a row of");
        edge("63 bytes of MOST", SOME, table(SOME, times(63, 40)), 1, "MOST=8");
        edge("62 bytes, and the 63rd is a header", SOME, SOME.frame(HEADERS, END, 3, join(times(62, 48), row(130))), 1,
                "state(3)=2", "headers(3)=256 257");
        edge("62 bytes, and the 63rd is wrong", SOME, table(SOME, join(times(62, 48), row(128))), DOWN, down(4));
        edge("62 bytes, and the 63rd ends too soon", SOME, table(SOME, join(times(62, 48), row(66))), DOWN, down(4));
        edge("21 headers of three bytes", SOME, table(SOME, times(21, 64, 2, 2)), 1, "TABLE=514*16");
        edge("31 of two, and one of one", SOME, SOME.frame(HEADERS, END, 3, join(entries(1, 31), row(148))), 1,
                "state(3)=2", tableOf(16, 31), "headers(3)=256 513 514 515 516 517 518 519");
        Run half = SOME.bytes(4, HEADERS, END, 3).bytes(66, 1, 36);
        edge("nothing of it counts before its end", SOME, half, 0);
        edge("all of it at its end", SOME, half.bytes(130), 1, "state(3)=2", "TABLE=513", "MOST=4",
                "headers(3)=256 513 257");
    }
}
