import java.util.Arrays;

/** The sentences on messages, fields, elements, values, nodes and errors in messages, each at its edges. */
public final class MessageEdgesTest extends Edges {
    /**
     * Stream 1 is OPEN, of type 0: INT 1, ZIG 2, FIXED 3, BYTES 4, PART 5 of type 0; 6 to 10 the same REPEATED;
     * 15 a SINGLE INT. What may come in is 255 for both. No field of type 1 but INT 11.
     */
    private static final Run ALL = new Run().field(0, 1, 0, false).field(0, 2, 1, false).field(0, 3, 2, false)
            .field(0, 4, 3, false).field(0, 5, 4, false).field(0, 6, 0, true).field(0, 7, 1, true)
            .field(0, 8, 2, true).field(0, 9, 3, true).field(0, 10, 4, true).field(0, 15, 0, false)
            .field(1, 11, 0, false).open(1, 0).grant(0, 155).grant(1, 195).drain();
    private static final Run WIDE = ALL.frame(WINDOW, 0, 0, 155).frame(WINDOW, 0, 1, 195);
    /** 48 values, or one or two fewer, in 50, 49 or 48 bytes. */
    private static final int[] FULL_ROW = join(row(50, 48), times(48, 1));
    private static final int[] ROW_OF_47 = join(row(50, 47), times(47, 1));
    private static final int[] ROW_OF_46 = join(row(50, 46), times(46, 1));
    /** As many of the data as one frame takes here. */
    private static final int PIECE = 60;

    public static void main(String[] args) {
        firstBytes();
        lengths();
        nextMessages();
        varintsOfTenBytes();
        varintsModulo();
        wires();
        knownNumbers();
        knownWires();
        packedAndSkipped();
        ints();
        zigs();
        fixed();
        empties();
        nodes();
        partsOfEachType();
        singleAndRepeated();
        wireErrors();
        longErrors();
        lengthsThatAreLeft();
        endsInTheMiddle();
        sixteenNodes();
        fortyEightValues();
        valuesInTheirPlaces();
        chainsOfFour();
        theLeastError();
        skippedBytes();
        sizes();
        writtenAgain();
        writtenBehindOthers();
        Check.end();
    }

    /** The data in frames of 60 bytes. */
    private static int[] framed(int... data) {
        int[] all = {};
        for (int at = 0; at < data.length; at += PIECE) {
            int[] piece = Arrays.copyOfRange(data, at, Math.min(data.length, at + PIECE));
            all = join(all, row(piece.length, DATA, 0, 1), piece);
        }
        return all;
    }

    private static int[] withLength(int length, int... body) {
        return join(row(0, length >> 8, length & 255), body);
    }

    /** A message that is read without an error, with what looks answer of it then. */
    private static void reads(String what, int[] body, int skipped, int size, String message) {
        int left = 255 - 3 - body.length;
        String[] changes = {"coming(0)=" + left, "coming(1)=" + left, "messages(1)=1", "message(1)=" + message};
        if (skipped != 0) {
            changes = join(changes, "skipped(1)=" + skipped);
        }
        if (size != 0) {
            changes = join(changes, "size(1)=" + size);
        }
        edge(what, ALL, ALL.bytes(framed(withLength(body.length, body))), 1, changes);
    }

    /** A message of this length that is an error at its byte `at`, the first one being 1, not before and not again. */
    private static void breaks(String what, int code, int at, int length, int... body) {
        int[] data = withLength(length, body);
        int[] bytes = framed(data);
        int place = at + 2;
        int byteAt = place + 4 * (place / PIECE + 1);
        Run before = ALL.bytes(Arrays.copyOf(bytes, byteAt));
        Run after = before.bytes(bytes[byteAt]);
        boolean last = byteAt == bytes.length - 1 || place % PIECE == PIECE - 1;
        edge(what, before, after, last ? 1 : 0, shut(1, code));
        same(what + ": state before it", before.desk().state(1), 1);
        if (byteAt < bytes.length - 1 && place / PIECE == (data.length - 1) / PIECE) {
            edge(what + ": the rest", after, after.bytes(Arrays.copyOfRange(bytes, byteAt + 1, bytes.length)), 1);
        }
    }

    private static void firstBytes() {
        says("The DATA of a stream are MESSAGES, each behind three bytes: 0 (else ERROR 7, at this byte)");
        Run head = ALL.bytes(4, DATA, 0, 1);
        edge("0", head, head.bytes(0), 0);
        for (int b : new int[] {1, 2, 127, 128, 255}) {
            edge("" + b, head, head.bytes(b), 0, shut(1, 7));
        }
        Run next = ALL.data(1, 0, 0, 2, 8, 1).bytes(4, DATA, 0, 1);
        edge("0 of the next", next, next.bytes(0), 0);
        edge("1 of the next, which leaves the latest one", next, next.bytes(1), 0, shut(1, 7));
        edge("255 of the next", next, next.bytes(255), 0, shut(1, 7));
        Run inside = ALL.bytes(6, DATA, 0, 1).bytes(0, 0, 2, 8, 1);
        edge("the byte behind a message is that of the next", inside, inside.bytes(3), 1, shut(1, 7));
    }

    private static void lengths() {
        says("its length, 0..200 (else ERROR 8, at the third), the higher byte first");
        Run head = ALL.bytes(4, DATA, 0, 1).bytes(0);
        edge("0", head, head.bytes(0, 0), 0, "messages(1)=1", "message(1)=0{}");
        for (int length : new int[] {1, 127, 128, 199, 200}) {
            edge("" + length, head, head.bytes(0, length), 0);
        }
        for (int length : new int[] {201, 202, 255}) {
            edge("" + length, head, head.bytes(0, length), 0, shut(1, 8));
        }
        for (int high : new int[] {1, 2, 128, 255}) {
            Run second = head.bytes(high);
            edge("the higher byte is " + high, head, second, 0);
            for (int low : new int[] {0, 1, 200, 255}) {
                edge("bytes " + high + " " + low, second, second.bytes(low), 0, shut(1, 8));
            }
        }
        Run wrong = head.bytes(0, 201);
        edge("what comes behind an error", wrong, wrong.bytes(0), 1);
        reads("a message of 1 byte less than 200", join(row(34, 196, 1), times(196, 7)), 0, 199, "0{4=196[7*196]}");
        reads("a message of 200 bytes", join(row(34, 197, 1), times(197, 7)), 0, 200, "0{4=197[7*197]}");
        // By the words of promise 14 the three bytes of the next one are there, though they are an error.
        Run next = ALL.data(1, 0, 0, 2, 8, 1).bytes(3, DATA, 0, 1).bytes(0, 0);
        edge("201 of the next", next, next.bytes(201), 1, shut(1, 8, "message(1)=", "size(1)=0"));
    }

    private static void nextMessages() {
        says("0 if there is none, or the three bytes of the next one are there (so all below, but -1 for typeOf and "
                + "byteOf)");
        Run one = ALL.data(1, 0, 0, 7, 8, 5, 34, 1, 77, 88, 1).bytes(5, DATA, 0, 1);
        same("messages", one.desk().messages(1), 1);
        edge("one byte of the next", one, one.bytes(0), 0);
        edge("two bytes of the next", one, one.bytes(0, 0), 0);
        edge("three bytes of the next", one, one.bytes(0, 0, 2), 0, "message(1)=", "size(1)=0", "skipped(1)=0");
        edge("a part of the next", one, one.bytes(0, 0, 2, 16), 0, "message(1)=", "size(1)=0", "skipped(1)=0");
        edge("all of the next", one, one.bytes(0, 0, 2, 16).bytes(4), 1, "messages(1)=2", "message(1)=0{2=2}",
                "size(1)=2", "skipped(1)=0");
        edge("all of the next, which is SKIPPED", one, one.bytes(0, 0, 2, 88).bytes(4), 1, "messages(1)=2",
                "message(1)=0{}", "size(1)=0");
        edge("three bytes of an empty one", one, one.bytes(0, 0, 0), 0, "messages(1)=2", "message(1)=0{}", "size(1)=0",
                "skipped(1)=0");
        edge("a part that is an error", one, one.bytes(0, 0, 2, 11), 0,
                shut(1, 12, "message(1)=", "size(1)=0", "skipped(1)=0"));
        Run some = one.bytes(0, 0, 2);
        edge("when the stream is SHUT then", some, some.cancel(1, 20), 1, shut(1, 20));
        Run shut = one.bytes(0, 0).cancel(1, 20).drain();
        edge("the latest one stays when the stream is SHUT", shut, shut.bytes(2, 8, 1), 1);

        says("How many messages of a stream are whole.");
        edge("none, but for one byte", ALL, ALL.data(1, 0, 0, 2, 8), 1, "coming(0)=251", "coming(1)=251");
        edge("20 in a frame", ALL, ALL.data(1, times(60, 0)), 1, "coming(0)=195", "coming(1)=195", "messages(1)=20",
                "message(1)=0{}");
        edge("two by a byte each", ALL, ALL.data(1, 0).data(1, 0).data(1, 0).data(1, 0, 0).data(1, 0), 1,
                "coming(0)=249", "coming(1)=249", "messages(1)=2", "message(1)=0{}");
    }

    private static void varintsOfTenBytes() {
        says("A VARINT is up to 10 bytes, of which all but the last one are above 127");
        reads("one byte, 0", row(8, 0), 0, 2, "0{1=0}");
        reads("one byte, 127", row(8, 127), 0, 2, "0{1=127}");
        reads("two bytes, 128 first", row(8, 128, 1), 0, 3, "0{1=128}");
        breaks("one byte, 128", 14, 2, 2, 8, 128);
        for (int n = 1; n <= 10; n++) {
            int[] more = times(n - 1, 128);
            reads(n + " bytes of an INT", join(row(8), more, row(0)), 0, 2, "0{1=0}");
            reads(n + " bytes of a tag", join(n == 1 ? row() : row(136), times(Math.max(0, n - 2), 128),
                    n == 1 ? row(8) : row(0), row(5)), 0, 2, "0{1=5}");
            reads(n + " bytes of a length", join(row(34), n == 1 ? row() : row(129), times(Math.max(0, n - 2), 128),
                    n == 1 ? row(1) : row(0), row(9)), 0, 3, "0{4=1[9]}");
            reads(n + " bytes of one that is SKIPPED", join(row(88), more, row(0)), 1 + n, 0, "0{}");
            reads(n + " bytes in a PACKED row", join(row(50, n + 1), more, row(0, 3)), 0, 4, "0{6=0,3}");
        }
    }

    private static void varintsModulo() {
        says("the sum of the lower seven bits of byte k (0 first) times 128^k, modulo 2^32");
        reads("2^28 - 1", row(8, 255, 255, 255, 127), 0, 5, "0{1=268435455}");
        reads("2^28", row(8, 128, 128, 128, 128, 1), 0, 6, "0{1=268435456}");
        reads("2^32 - 2^28", row(8, 128, 128, 128, 128, 15), 0, 11, "0{1=-268435456}");
        reads("2^32 - 1", row(8, 255, 255, 255, 255, 15), 0, 11, "0{1=-1}");
        reads("2^32", row(8, 128, 128, 128, 128, 16), 0, 2, "0{1=0}");
        reads("2^32 + 1", row(8, 129, 128, 128, 128, 16), 0, 2, "0{1=1}");
        reads("2^35 - 1", row(8, 255, 255, 255, 255, 127), 0, 11, "0{1=-1}");
        reads("2^35 + 5", row(8, 133, 128, 128, 128, 128, 1), 0, 2, "0{1=5}");
        reads("2^63 + 6", row(8, 134, 128, 128, 128, 128, 128, 128, 128, 128, 1), 0, 2, "0{1=6}");
        reads("2^64 - 1", row(8, 255, 255, 255, 255, 255, 255, 255, 255, 255, 1), 0, 11, "0{1=-1}");
        reads("2^70 - 1", row(8, 255, 255, 255, 255, 255, 255, 255, 255, 255, 127), 0, 11, "0{1=-1}");
        reads("a tag of 2^32 + 8", row(136, 128, 128, 128, 16, 5), 0, 2, "0{1=5}");
        breaks("a tag of 2^32 + 3", 12, 5, 6, 131, 128, 128, 128, 16, 5);
        reads("a length of 2^32 + 1", row(34, 129, 128, 128, 128, 16, 5), 0, 3, "0{4=1[5]}");
        reads("a length of 2^32", row(34, 128, 128, 128, 128, 16), 0, 2, "0{4=0}");
    }

    private static void wires() {
        says("then with wire 0 a VARINT, 1 eight bytes, 5 four bytes, 2 a VARINT L, the length, and L bytes");
        reads("wire 0", row(88, 255, 1), 3, 0, "0{}");
        reads("wire 1", row(89, 1, 2, 3, 4, 5, 6, 7, 8), 9, 0, "0{}");
        reads("wire 1 and an INT", row(89, 1, 2, 3, 4, 5, 6, 7, 8, 8, 9), 9, 2, "0{1=9}");
        breaks("wire 1 and seven bytes", 14, 8, 8, 89, 1, 2, 3, 4, 5, 6, 7);
        breaks("wire 1 and nine bytes", 14, 10, 10, 89, 1, 2, 3, 4, 5, 6, 7, 8, 8);
        reads("wire 5", row(93, 1, 2, 3, 4), 5, 0, "0{}");
        reads("wire 5 and an INT", row(93, 1, 2, 3, 4, 8, 9), 5, 2, "0{1=9}");
        breaks("wire 5 and three bytes", 14, 4, 4, 93, 1, 2, 3);
        breaks("wire 5 and five bytes", 14, 6, 6, 93, 1, 2, 3, 4, 8);
        reads("wire 2, L is 0", row(90, 0), 2, 0, "0{}");
        reads("wire 2, L is 1", row(90, 1, 255), 3, 0, "0{}");
        reads("wire 2, L is 1, and an INT", row(90, 1, 255, 8, 9), 3, 2, "0{1=9}");
        reads("wire 2, L is 197", join(row(90, 197, 1), times(197, 255)), 200, 0, "0{}");
        breaks("wire 2, L is 1, and no byte", 14, 2, 2, 90, 1);
    }

    private static void knownNumbers() {
        says("An element is KNOWN if its number (the tag divided by 8) is 1..15, and the type has such a field");
        breaks("number 0", 12, 1, 2, 0, 5);
        reads("number 1", row(8, 5), 0, 2, "0{1=5}");
        reads("number 14, of no field", row(112, 5), 2, 0, "0{}");
        reads("number 15", row(120, 5), 0, 2, "0{15=5}");
        reads("number 16", row(128, 1, 5), 3, 0, "0{}");
        reads("number 17", row(136, 1, 5), 3, 0, "0{}");
        reads("number 31", row(248, 1, 5), 3, 0, "0{}");
        reads("number 2^28 + 1", row(136, 128, 128, 128, 8, 5), 6, 0, "0{}");
        reads("number 2^29 - 1", row(248, 255, 255, 255, 15, 5), 6, 0, "0{}");
        reads("number 11, which another type has", row(88, 5), 2, 0, "0{}");
        Run none = new Run().field(0, 1, 0, false).field(0, 1, -1, false).open(1, 0);
        edge("a field that is NONE again", none, none.data(1, 0, 0, 2, 8, 5), 1, "coming(0)=95", "coming(1)=55",
                "messages(1)=1", "message(1)=0{}", "skipped(1)=2");
    }

    private static void knownWires() {
        says("its wire is that of the kind: INT and ZIG 0, FIXED 5, BYTES and PARTS 2; or 2 for REPEATED INT, ZIG, "
                + "FIXED");
        // By wires 0, 1, 2, 5; the four bytes are right for all kinds.
        int[][] behind = {{1}, {0, 0, 0, 0, 0, 0, 0, 0}, {4, 8, 0, 8, 0}, {1, 0, 0, 0}};
        int[] wires = {0, 1, 2, 5};
        String[][] due = new String[11][4];
        due[1][0] = "2 0{1=1}";
        due[2][0] = "2 0{2=-1}";
        due[3][3] = "5 0{3=1}";
        due[4][2] = "6 0{4=4[8 0 8 0]}";
        due[5][2] = "4 0{5=1} 0{1=0}";
        due[6][0] = "3 0{6=1}";
        due[6][2] = "6 0{6=8,0,8,0}";
        due[7][0] = "3 0{7=-1}";
        due[7][2] = "6 0{7=4,0,4,0}";
        due[8][2] = "6 0{8=524296}";
        due[8][3] = "6 0{8=1}";
        due[9][2] = "6 0{9=4[8 0 8 0]}";
        due[10][2] = "4 0{10=1} 0{1=0}";
        for (int number = 1; number <= 10; number++) {
            for (int w = 0; w < 4; w++) {
                String what = "number " + number + " with wire " + wires[w];
                int[] body = join(row(8 * number + wires[w]), behind[w]);
                String known = due[number][w];
                if (known == null) {
                    reads(what, body, body.length, 0, "0{}");
                } else {
                    reads(what, body, 0, known.charAt(0) - '0', known.substring(2));
                }
            }
        }
    }

    private static void packedAndSkipped() {
        says("then the L bytes are VARINTs (or four bytes each), one behind the other, PACKED. All others are SKIPPED, "
                + "the L bytes too.");
        reads("a row of one", row(50, 1, 9), 0, 3, "0{6=9}");
        reads("a row of two", row(50, 3, 9, 255, 1), 0, 5, "0{6=9,255}");
        reads("a row of ZIG", row(58, 3, 9, 255, 1), 0, 5, "0{7=-5,-128}");
        reads("a row of FIXED, one", row(66, 4, 9, 0, 0, 0), 0, 6, "0{8=9}");
        reads("a row in a part, and behind it", row(42, 3, 50, 1, 9, 50, 1, 8), 0, 8, "0{5=1 6=8} 0{6=9}");
        reads("bytes that would be errors are SKIPPED", row(90, 3, 3, 0, 255), 5, 0, "0{}");
        reads("a row of a SINGLE field is SKIPPED", row(10, 2, 255, 255, 18, 1, 1, 26, 4, 1, 2, 3, 4), 13, 0, "0{}");
        reads("what would be a part of a field of no PART", row(90, 2, 42, 0), 4, 0, "0{}");

        says("NODES: the message is node 0; others are numbered as they come up.");
        reads("the message alone", row(8, 1), 0, 2, "0{1=1}");
        reads("parts before those behind them", row(82, 4, 82, 0, 82, 0, 42, 2, 82, 0), 0, 10,
                "0{5=4 10=1} 0{10=2,3} 0{} 0{} 0{10=5} 0{}");
    }

    private static void ints() {
        says("INT the varint as an int");
        reads("2^31 - 1", row(8, 255, 255, 255, 255, 7), 0, 6, "0{1=2147483647}");
        reads("2^31", row(8, 128, 128, 128, 128, 8), 0, 11, "0{1=-2147483648}");
        reads("2^31 + 1", row(8, 129, 128, 128, 128, 8), 0, 11, "0{1=-2147483647}");
        reads("in a PACKED row", row(50, 10, 255, 255, 255, 255, 7, 128, 128, 128, 128, 8), 0, 17,
                "0{6=2147483647,-2147483648}");
    }

    private static void zigs() {
        says("ZIG n / 2 of it (n from 0 to 2^32 - 1), or if n is odd - (n + 1) / 2");
        reads("0", row(16, 0), 0, 2, "0{2=0}");
        reads("1", row(16, 1), 0, 2, "0{2=-1}");
        reads("2", row(16, 2), 0, 2, "0{2=1}");
        reads("3", row(16, 3), 0, 2, "0{2=-2}");
        reads("2^31 - 1", row(16, 255, 255, 255, 255, 7), 0, 6, "0{2=-1073741824}");
        reads("2^31", row(16, 128, 128, 128, 128, 8), 0, 6, "0{2=1073741824}");
        reads("2^32 - 3", row(16, 253, 255, 255, 255, 15), 0, 6, "0{2=-2147483647}");
        reads("2^32 - 2", row(16, 254, 255, 255, 255, 15), 0, 6, "0{2=2147483647}");
        reads("2^32 - 1", row(16, 255, 255, 255, 255, 15), 0, 6, "0{2=-2147483648}");
        reads("2^32", row(16, 128, 128, 128, 128, 16), 0, 2, "0{2=0}");
        reads("in a PACKED row", row(58, 10, 254, 255, 255, 255, 15, 255, 255, 255, 255, 15), 0, 12,
                "0{7=2147483647,-2147483648}");
    }

    private static void fixed() {
        says("FIXED the four bytes as an int, the lowest first");
        reads("0", row(29, 0, 0, 0, 0), 0, 5, "0{3=0}");
        reads("1", row(29, 1, 0, 0, 0), 0, 5, "0{3=1}");
        reads("256", row(29, 0, 1, 0, 0), 0, 5, "0{3=256}");
        reads("2^24", row(29, 0, 0, 0, 1), 0, 5, "0{3=16777216}");
        reads("2^31 - 1", row(29, 255, 255, 255, 127), 0, 5, "0{3=2147483647}");
        reads("2^31", row(29, 0, 0, 0, 128), 0, 5, "0{3=-2147483648}");
        reads("2^32 - 1", row(29, 255, 255, 255, 255), 0, 5, "0{3=-1}");
        reads("in a PACKED row", row(66, 8, 255, 255, 255, 127, 0, 0, 0, 128), 0, 10, "0{8=2147483647,-2147483648}");
    }

    private static void empties() {
        says("BYTES its L bytes; of a PART the L bytes are a message of its type");
        reads("an empty message", row(), 0, 0, "0{}");
        reads("empty BYTES", row(34, 0), 0, 2, "0{4=0}");
        reads("empty BYTES twice", row(74, 0, 74, 0), 0, 4, "0{9=0,0}");
        reads("one byte", row(34, 1, 0), 0, 3, "0{4=1[0]}");
        reads("an empty PART", row(42, 0), 0, 2, "0{5=1} 0{}");
        reads("empty PARTS", row(82, 0, 82, 0), 0, 4, "0{10=1,2} 0{} 0{}");
        reads("an empty PART in the last byte of another", row(42, 2, 42, 0), 0, 4, "0{5=1} 0{5=2} 0{}");
        reads("an empty PACKED row", row(50, 0), 0, 0, "0{}");
        reads("an empty PACKED row of FIXED", row(66, 0), 0, 0, "0{}");
        reads("an empty PACKED row before others", row(50, 0, 50, 1, 4, 50, 0), 0, 3, "0{6=4}");
        reads("an empty PACKED row in a PART", row(42, 2, 50, 0), 0, 2, "0{5=1} 0{}");
        reads("empty BYTES in a PART", row(42, 2, 34, 0), 0, 4, "0{5=1} 0{4=0}");
        reads("empty, SKIPPED, in a PART", row(42, 2, 90, 0), 2, 2, "0{5=1} 0{}");
    }

    private static void nodes() {
        says("A PART of a REPEATED field, or the first one of a SINGLE one in this node, is a new node; a further one "
                + "of a SINGLE one goes on in the node that is there.");
        reads("SINGLE, once", row(42, 2, 8, 1), 0, 4, "0{5=1} 0{1=1}");
        reads("SINGLE, twice", row(42, 2, 8, 1, 42, 2, 16, 2), 0, 6, "0{5=1} 0{1=1 2=1}");
        reads("SINGLE, twice, the second empty", row(42, 2, 8, 1, 42, 0), 0, 4, "0{5=1} 0{1=1}");
        reads("REPEATED, twice", row(82, 2, 8, 1, 82, 2, 16, 2), 0, 8, "0{10=1,2} 0{1=1} 0{2=1}");
        reads("SINGLE ones of several nodes", row(82, 2, 42, 0, 82, 2, 42, 0, 42, 0), 0, 10,
                "0{5=5 10=1,3} 0{5=2} 0{} 0{5=4} 0{} 0{}");
        reads("SINGLE in SINGLE, twice", row(42, 4, 42, 2, 8, 1, 42, 4, 42, 2, 16, 1), 0, 8,
                "0{5=1} 0{5=2} 0{1=1 2=-1}");
        reads("SINGLE and REPEATED between each other", row(42, 0, 82, 0, 42, 2, 8, 7, 82, 0), 0, 8,
                "0{5=1 10=2,3} 0{1=7} 0{} 0{}");
    }

    private static void partsOfEachType() {
        says("4 + t PART of type t");
        // Each type has but one field of its own number and kind, and a PART of each type.
        Run types = new Run();
        for (int type = 0; type <= 3; type++) {
            types = types.field(type, 5 + type, type, type % 2 == 1);
            for (int part = 0; part <= 3; part++) {
                types = types.field(type, 1 + part, 4 + part, part % 2 == 0);
            }
        }
        int[][] own = {{40, 3}, {50, 1, 3}, {61, 3, 0, 0, 0}, {66, 1, 3}};
        String[] texts = {"5=3", "6=-2", "7=3", "8=1[3]"};
        for (int type = 0; type <= 3; type++) {
            for (int part = 0; part <= 3; part++) {
                int tag = 8 * (1 + part) + 2;
                int[] inner = join(row(tag, 0), own[part]);
                int[] body = join(row(tag, inner.length), inner, own[type]);
                Run open = types.open(7, type);
                int in = 3 + body.length;
                String message = type + "{" + (1 + part) + "=1 " + texts[type] + "} " + part + "{" + (1 + part) + "=2 "
                        + texts[part] + "} " + part + "{}";
                Run whole = open.data(7, withLength(body.length, body));
                edge("type " + part + " in type " + type, open, whole, 1, "coming(0)=" + (100 - in),
                        "coming(7)=" + (60 - in), "messages(7)=1", "message(7)=" + message, "size(7)=" + body.length);
                edge("written again", whole, whole.answer(7), body.length, "sending(0)=" + (100 - in),
                        "sending(7)=" + (60 - in), out(frames(7, false, withLength(body.length, body))));
                if (part != type) {
                    int[] other = own[type];
                    int left = 3 + 2 + other.length;
                    edge("a field of the other type is SKIPPED", open,
                            open.data(7, withLength(left - 3, join(row(tag, other.length), other))), 1,
                            "coming(0)=" + (100 - left), "coming(7)=" + (60 - left), "messages(7)=1", "size(7)=2",
                            "skipped(7)=" + other.length,
                            "message(7)=" + type + "{" + (1 + part) + "=1} " + part + "{}");
                }
            }
        }
    }

    private static void singleAndRepeated() {
        says("Of other fields each value is added behind those of the field (in this node) if it is REPEATED; else it "
                + "takes the place of the one before.");
        reads("INT", row(8, 1, 8, 2, 48, 1, 48, 2), 0, 6, "0{1=2 6=1,2}");
        reads("ZIG", row(16, 1, 16, 2, 56, 1, 56, 2), 0, 6, "0{2=1 7=-1,1}");
        reads("FIXED", row(29, 1, 0, 0, 0, 29, 2, 0, 0, 0, 69, 1, 0, 0, 0, 69, 2, 0, 0, 0), 0, 15, "0{3=2 8=1,2}");
        reads("BYTES", row(34, 2, 1, 2, 34, 1, 3, 74, 2, 1, 2, 74, 1, 3), 0, 10, "0{4=1[3] 9=2[1 2],1[3]}");
        reads("BYTES, the later one longer", row(34, 0, 34, 3, 1, 2, 3), 0, 5, "0{4=3[1 2 3]}");
        reads("INT, one by one and in rows", row(48, 1, 50, 2, 2, 3, 48, 4, 50, 1, 5), 0, 7, "0{6=1,2,3,4,5}");
        reads("of several nodes", row(8, 1, 42, 4, 8, 2, 48, 3, 8, 4, 48, 5, 42, 4, 8, 6, 48, 7), 0, 13,
                "0{1=4 5=1 6=5} 0{1=6 6=3,7}");
    }

    private static void wireErrors() {
        says("WIRE (2): a wire that is none of these, or number 0 (when the tag is there).");
        for (int wire : new int[] {3, 4, 6, 7}) {
            breaks("wire " + wire + " of a field", 12, 1, 2, 8 + wire, 0);
            breaks("wire " + wire + " of no field", 12, 1, 2, 88 + wire, 0);
            breaks("wire " + wire + " in a tag of two bytes", 12, 2, 3, 128 + wire, 1, 0);
            breaks("wire " + wire + " in a part", 12, 3, 4, 42, 2, 8 + wire, 0);
            breaks("wire " + wire + " behind an element", 12, 3, 4, 8, 1, 8 + wire, 0);
        }
        for (int wire = 0; wire <= 7; wire++) {
            breaks("number 0 with wire " + wire, 12, 1, 2, wire, 0);
            breaks("number 0 in a tag of two bytes, wire " + wire, 12, 2, 3, 128 + wire, 0, 0);
        }
        breaks("number 0 in a tag of ten bytes", 12, 10, 11, join(times(9, 128), row(0, 0)));
    }

    private static void longErrors() {
        says("LONG (3): a tenth byte of a varint above 127.");
        int[] nine = times(9, 128);
        for (int tenth : new int[] {128, 129, 255}) {
            breaks("a tag", 13, 10, 12, join(nine, row(tenth, 0, 0)));
            breaks("an INT", 13, 11, 13, join(row(8), nine, row(tenth, 0, 0)));
            breaks("a ZIG", 13, 11, 13, join(row(16), nine, row(tenth, 0, 0)));
            breaks("one that is SKIPPED", 13, 11, 13, join(row(88), nine, row(tenth, 0, 0)));
            breaks("a length of BYTES", 13, 11, 13, join(row(34), nine, row(tenth, 0, 0)));
            breaks("a length of a PART", 13, 11, 13, join(row(42), nine, row(tenth, 0, 0)));
            breaks("a length of a row", 13, 11, 13, join(row(50), nine, row(tenth, 0, 0)));
            breaks("a length of one that is SKIPPED", 13, 11, 13, join(row(90), nine, row(tenth, 0, 0)));
            breaks("in a row", 13, 12, 14, join(row(50, 12), nine, row(tenth, 0, 0)));
            breaks("in a part", 13, 13, 15, join(row(42, 13, 8), nine, row(tenth, 0, 0)));
        }
        for (int tenth : new int[] {0, 1, 127}) {
            reads("not an INT with " + tenth, join(row(8), nine, row(tenth)), 0, 2, "0{1=0}");
            reads("not one that is SKIPPED with " + tenth, join(row(88), nine, row(tenth)), 11, 0, "0{}");
            reads("not a length with " + tenth, join(row(34), nine, row(tenth)), 0, 2, "0{4=0}");
            reads("not in a row with " + tenth, join(row(50, 11), nine, row(tenth, 5)), 0, 4, "0{6=0,5}");
        }
    }

    private static void lengthsThatAreLeft() {
        says("ENDS (4): a length is greater than the bytes that are left in the message or part in which it is (when "
                + "the length is there)");
        for (int tag : new int[] {34, 42, 50, 58, 66, 74, 82, 90}) {
            breaks("one more than is left, tag " + tag, 14, 2, 6, tag, 5, 8, 1, 8, 1);
            breaks("as much as an int can tell, tag " + tag, 14, 6, 8, tag, 255, 255, 255, 255, 7, 8, 1);
            breaks("2^31, tag " + tag, 14, 6, 8, tag, 128, 128, 128, 128, 8, 8, 1);
            breaks("2^32 - 1, tag " + tag, 14, 6, 8, tag, 255, 255, 255, 255, 15, 8, 1);
            breaks("one more than is left in a part, tag " + tag, 14, 4, 10, 42, 6, tag, 5, 8, 1, 8, 1, 8, 1);
            breaks("one more than none, tag " + tag, 14, 2, 2, tag, 1);
            breaks("200, tag " + tag, 14, 3, 200, join(row(tag, 200, 1), times(197, 1)));
            breaks("one more than is left, in two bytes, tag " + tag, 14, 3, 7, tag, 133, 0, 8, 1, 8, 1);
        }
        reads("all that is left, BYTES", row(34, 4, 8, 1, 8, 1), 0, 6, "0{4=4[8 1 8 1]}");
        reads("all that is left, a PART", row(42, 4, 8, 1, 8, 1), 0, 4, "0{5=1} 0{1=1}");
        reads("all that is left, a row", row(50, 4, 8, 1, 8, 1), 0, 6, "0{6=8,1,8,1}");
        reads("all that is left, SKIPPED", row(90, 4, 8, 1, 8, 1), 6, 0, "0{}");
        reads("one less than is left, BYTES", row(34, 3, 8, 1, 8, 8, 1), 0, 7, "0{1=1 4=3[8 1 8]}");
        reads("all that is left in a part, BYTES", row(42, 4, 34, 2, 8, 1, 8, 1), 0, 8, "0{1=1 5=1} 0{4=2[8 1]}");
        reads("all that is left in a part, a PART", row(42, 4, 42, 2, 8, 1, 8, 2), 0, 8, "0{1=2 5=1} 0{5=2} 0{1=1}");
        reads("all that is left in a part, a row", row(42, 4, 50, 2, 8, 1, 8, 1), 0, 8, "0{1=1 5=1} 0{6=8,1}");
        reads("all that is left in a part, SKIPPED", row(42, 4, 90, 2, 8, 1, 8, 1), 4, 4, "0{1=1 5=1} 0{}");
    }

    private static void endsInTheMiddle() {
        says("or all bytes of a message, part or PACKED row are there, and its last element, or number, is not whole");
        int[][] halves = {{136}, {8}, {8, 128}, {16, 255}, {29}, {29, 1, 2, 3}, {34}, {34, 128}, {42}, {42, 128},
            {50}, {89, 1, 2, 3, 4, 5, 6, 7}, {93, 1}, {88}, {90}, {90, 129}};
        for (int[] half : halves) {
            int n = half.length;
            breaks("a message: " + text(half), 14, n, n, half);
            breaks("a message behind an element: " + text(half), 14, n + 2, n + 2, join(row(8, 1), half));
            breaks("a part: " + text(half), 14, n + 2, n + 4, join(row(42, n), half, row(8, 1)));
            breaks("a part that ends with the message: " + text(half), 14, n + 2, n + 2, join(row(82, n), half));
            breaks("a part in a part: " + text(half), 14, n + 4, n + 6, join(row(42, n + 2, 42, n), half, row(8, 1)));
        }
        breaks("a row: a varint", 14, 3, 5, 50, 1, 128, 8, 1);
        breaks("a row: a varint behind others", 14, 5, 7, 50, 3, 1, 1, 128, 8, 1);
        breaks("a row of ZIG", 14, 4, 6, 58, 2, 1, 255, 8, 1);
        for (int n = 1; n <= 3; n++) {
            breaks("a row of FIXED: " + n, 14, 2 + n, 4 + n, join(row(66, n), times(n, 1), row(8, 1)));
            breaks("a row of FIXED: " + (4 + n), 14, 6 + n, 8 + n, join(row(66, 4 + n), times(4 + n, 1), row(8, 1)));
        }
        breaks("a row that ends with the message", 14, 3, 3, 50, 1, 128);
        breaks("a row that ends with its part", 14, 5, 7, 42, 3, 50, 1, 128, 8, 1);
        reads("a row of FIXED: 4", row(66, 4, 1, 0, 0, 0, 8, 1), 0, 8, "0{1=1 8=1}");
        reads("a row of FIXED: 8", row(66, 8, 1, 0, 0, 0, 2, 0, 0, 0), 0, 10, "0{8=1,2}");
    }

    private static void sixteenNodes() {
        says("MUCH (5): a 17th node");
        int[] fourteen = times(14, 82, 0);
        int[] fifteen = times(15, 82, 0);
        String parts = "10=1,2,3,4,5,6,7,8,9,10,11,12,13,14";
        reads("15 nodes", fourteen, 0, 28, "0{" + parts + "} 0{}*14");
        reads("16 nodes", fifteen, 0, 30, "0{" + parts + ",15} 0{}*15");
        reads("16 nodes, the last of a SINGLE field", join(fourteen, row(42, 0)), 0, 30,
                "0{5=15 " + parts + "} 0{}*15");
        reads("16 nodes, the last of which goes on", join(fourteen, row(42, 0, 42, 2, 8, 1)), 0, 32,
                "0{5=15 " + parts + "} 0{}*14 0{1=1}");
        breaks("a 17th", 15, 32, 33, join(fifteen, row(82, 0, 8)));
        breaks("a 17th that is not empty", 15, 32, 34, join(fifteen, row(82, 2, 8, 1)));
        breaks("a 17th, of a SINGLE field", 15, 32, 32, join(fifteen, row(42, 0)));
        breaks("a 17th with a length of two bytes", 15, 33, 33, join(fifteen, row(82, 128, 0)));
        breaks("a 17th in a part", 15, 32, 34, join(times(14, 82, 0), row(82, 2, 42, 0, 8, 1)));
        Run one = ALL.bytes(framed(withLength(30, fifteen))).grant(1, 33).grant(0, 33).drain();
        edge("each message has its own", one, one.bytes(framed(withLength(30, fifteen))), 1, "messages(1)=2",
                "coming(0)=222", "coming(1)=222");
    }

    private static void fortyEightValues() {
        says("a 49th value at once in all nodes (PARTS are values, too");
        String many = "6=1" + ",1".repeat(46);
        reads("47 values", ROW_OF_47, 0, 49, "0{" + many + "}");
        reads("48 values", FULL_ROW, 0, 50, "0{" + many + ",1}");
        breaks("49 values in a row", 15, 51, 52, join(row(50, 50), times(50, 1)));
        int[][] lasts = {{8, 1}, {16, 0}, {29, 0, 0, 0, 0}, {34, 0}, {42, 0}, {48, 1}, {56, 0}, {69, 0, 0, 0, 0},
            {74, 0}, {82, 0}, {50, 1, 1}, {58, 1, 0}, {66, 4, 0, 0, 0, 0}};
        String[] texts = {"1=1 " + many, "2=0 " + many, "3=0 " + many, "4=0 " + many, "5=1 " + many, many + ",1",
            many + " 7=0", many + " 8=0", many + " 9=0", many + " 10=1", many + ",1", many + " 7=0", many + " 8=0"};
        int[] sizes = {2, 2, 5, 2, 2, 1, 3, 6, 2, 2, 1, 3, 6};
        for (int k = 0; k < lasts.length; k++) {
            String part = lasts[k][0] == 42 || lasts[k][0] == 82 ? " 0{}" : "";
            reads("the 48th: " + text(lasts[k]), join(ROW_OF_47, lasts[k]), 0, 49 + sizes[k],
                    "0{" + texts[k] + "}" + part);
            breaks("the 49th: " + text(lasts[k]), 15, 50 + lasts[k].length, 52 + lasts[k].length,
                    join(FULL_ROW, lasts[k], row(8, 1)));
        }
        breaks("in a part", 15, 53, 56, join(row(42, 54, 50, 47), times(47, 1), row(8, 1, 16, 1, 8)));
        breaks("in another part", 15, 53, 54, join(ROW_OF_47, row(42, 0, 82, 0, 8)));
        reads("one part of 48", join(ROW_OF_47, row(42, 0)), 0, 51, "0{5=1 " + many + "} 0{}");
        breaks("48 FIXED and one more", 15, 199, 199, join(row(66, 196, 1), times(196, 1)));
        reads("what is SKIPPED is none", join(FULL_ROW, row(88, 1, 90, 1, 1, 89), times(8, 0), row(93), times(4, 0)),
                19, 50, "0{" + many + ",1}");
        reads("an empty row is none", join(FULL_ROW, row(50, 0, 58, 0, 66, 0)), 0, 50, "0{" + many + ",1}");

        says("MUCH of a value of BYTES comes when its length is there, as of a PART; of an INT, ZIG or FIXED when the "
                + "last byte of the value is there, in a PACKED row too.");
        breaks("BYTES", 15, 52, 55, join(FULL_ROW, row(34, 3, 1, 2, 3)));
        breaks("BYTES with a length of two bytes", 15, 53, 56, join(FULL_ROW, row(34, 131, 0, 1, 2, 3)));
        breaks("a PART", 15, 52, 54, join(FULL_ROW, row(82, 2, 8, 1)));
        breaks("an INT of three bytes", 15, 54, 55, join(FULL_ROW, row(8, 255, 255, 1, 8)));
        breaks("an INT of ten bytes", 15, 61, 62, join(FULL_ROW, row(8), times(9, 255), row(1, 8)));
        breaks("a ZIG of two bytes", 15, 53, 54, join(FULL_ROW, row(16, 255, 1, 8)));
        breaks("a FIXED", 15, 55, 56, join(FULL_ROW, row(29, 1, 2, 3, 4, 8)));
        breaks("an INT of two bytes in a row", 15, 54, 56, join(FULL_ROW, row(50, 4, 255, 1, 1, 1)));
        breaks("a FIXED in a row", 15, 56, 60, join(FULL_ROW, row(66, 8), times(8, 1)));
        breaks("a ZIG in a row", 15, 53, 54, join(FULL_ROW, row(58, 2, 1, 1)));
    }

    private static void valuesInTheirPlaces() {
        says("one that takes another's place, or goes on in a node, is none");
        String row = "6=1" + ",1".repeat(46);
        reads("INT", join(ROW_OF_47, row(8, 1, 8, 2, 8, 3)), 0, 51, "0{1=3 " + row + "}");
        reads("ZIG", join(ROW_OF_47, row(16, 1, 16, 2)), 0, 51, "0{2=1 " + row + "}");
        reads("FIXED", join(ROW_OF_47, row(29, 1, 0, 0, 0, 29, 2, 0, 0, 0)), 0, 54, "0{3=2 " + row + "}");
        reads("BYTES", join(ROW_OF_47, row(34, 1, 7, 34, 2, 8, 9)), 0, 53, "0{4=2[8 9] " + row + "}");
        reads("a PART", join(ROW_OF_47, row(42, 0, 42, 0)), 0, 51, "0{5=1 " + row + "} 0{}");
        breaks("a PART that goes on with a value too many", 15, 55, 56, join(ROW_OF_47, row(42, 0, 42, 3, 8, 1, 8)));
        breaks("an INT of a SINGLE field of another node", 15, 56, 56,
                join(ROW_OF_46, row(42, 0, 8, 1, 42, 2, 8, 1)));
        reads("first of all, then others", join(row(8, 1, 8, 2, 8, 3), ROW_OF_47, row(8, 4)), 0, 51,
                "0{1=4 " + row + "}");
    }

    private static void chainsOfFour() {
        says("or a node that would be the fifth one of a chain of parts in each other (node 0 being the first)");
        reads("three", row(42, 2, 42, 0), 0, 4, "0{5=1} 0{5=2} 0{}");
        reads("four", row(42, 4, 42, 2, 42, 0), 0, 6, "0{5=1} 0{5=2} 0{5=3} 0{}");
        reads("four, REPEATED", row(82, 4, 82, 2, 82, 0), 0, 6, "0{10=1} 0{10=2} 0{10=3} 0{}");
        reads("four, twice", row(82, 4, 42, 2, 82, 0, 82, 4, 42, 2, 82, 0), 0, 12,
                "0{10=1,4} 0{5=2} 0{10=3} 0{} 0{5=5} 0{10=6} 0{}");
        reads("four, which go on", row(42, 4, 42, 2, 42, 0, 42, 6, 42, 4, 42, 2, 8, 1), 0, 8,
                "0{5=1} 0{5=2} 0{5=3} 0{1=1}");
        breaks("five", 15, 8, 8, 42, 6, 42, 4, 42, 2, 42, 0);
        breaks("five, REPEATED", 15, 8, 8, 82, 6, 82, 4, 82, 2, 82, 0);
        breaks("five, the last not empty", 15, 8, 12, 42, 8, 42, 6, 42, 4, 82, 2, 8, 1, 8, 1);
        breaks("five, in a chain that goes on", 15, 14, 14, 42, 4, 42, 2, 42, 0, 42, 6, 42, 4, 42, 2, 42, 0);
        reads("BYTES are no part of it", row(42, 6, 42, 4, 42, 2, 34, 0), 0, 8, "0{5=1} 0{5=2} 0{5=3} 0{4=0}");
        reads("what is SKIPPED neither", row(42, 6, 42, 4, 42, 2, 90, 0), 2, 6, "0{5=1} 0{5=2} 0{5=3} 0{}");
    }

    private static void theLeastError() {
        says("Of several at the same byte the least.");
        breaks("WIRE and ENDS", 12, 1, 1, 11);
        breaks("WIRE and ENDS of a part", 12, 3, 5, 42, 1, 3, 8, 1);
        breaks("LONG and ENDS, a tag", 13, 10, 10, times(10, 128));
        breaks("LONG and ENDS, an INT", 13, 11, 11, join(row(8), times(10, 128)));
        breaks("LONG and ENDS, a length", 13, 11, 11, join(row(34), times(10, 128)));
        breaks("LONG and ENDS, in a row", 13, 12, 14, join(row(50, 10), times(10, 128), row(8, 1)));
        breaks("LONG and ENDS, in a part", 13, 12, 14, join(row(42, 10), times(10, 128), row(8, 1)));
        breaks("ENDS and MUCH of nodes", 14, 32, 33, join(times(15, 82, 0), row(82, 2, 8)));
        breaks("ENDS and MUCH of values, BYTES", 14, 52, 53, join(FULL_ROW, row(34, 2, 8)));
        breaks("ENDS and MUCH of values, a PART", 14, 52, 53, join(FULL_ROW, row(82, 2, 8)));
        breaks("ENDS and MUCH of a chain", 14, 8, 10, 42, 8, 42, 6, 42, 4, 42, 3, 8, 1);
        breaks("ENDS of a length, though it would go on in a node", 14, 4, 5, 42, 0, 42, 2, 8);

        says("Errors in messages, below, are 10 more as ERRORS of the stream.");
        breaks("WIRE", 12, 1, 2, 3, 0);
        breaks("LONG", 13, 11, 12, join(row(8), times(10, 255), row(0)));
        breaks("ENDS", 14, 2, 2, 8, 255);
        breaks("MUCH", 15, 51, 51, join(row(50, 49), times(49, 1)));
    }

    private static void skippedBytes() {
        says("How many bytes of the message belong to elements that were SKIPPED (their tags and lengths too).");
        reads("none", row(8, 1), 0, 2, "0{1=1}");
        reads("two of four", row(8, 1, 88, 1), 2, 2, "0{1=1}");
        reads("a tag of ten bytes", join(row(216), times(8, 128), row(0, 1)), 11, 0, "0{}");
        reads("a length of ten bytes", join(row(90, 129), times(8, 128), row(0, 1)), 12, 0, "0{}");
        reads("all of 200", join(row(90, 197, 1), times(197, 3)), 200, 0, "0{}");
        reads("in a part", row(42, 4, 88, 1, 8, 1, 88, 1), 4, 4, "0{5=1} 0{1=1}");
        reads("in a part that goes on", row(42, 2, 88, 1, 42, 2, 88, 1), 4, 2, "0{5=1} 0{}");
        reads("a part of another wire", row(40, 1, 41, 1, 2, 3, 4, 5, 6, 7, 8), 11, 0, "0{}");
        reads("what takes another's place is not", row(8, 1, 8, 2), 0, 2, "0{1=2}");
    }

    private static void sizes() {
        says("INT as a varint of 10 bytes if it is below 0 (as 2^64 more), else of as few as can be");
        reads("127", row(8, 127), 0, 2, "0{1=127}");
        reads("128", row(8, 128, 1), 0, 3, "0{1=128}");
        reads("16383", row(8, 255, 127), 0, 3, "0{1=16383}");
        reads("16384", row(8, 128, 128, 1), 0, 4, "0{1=16384}");
        reads("2^21 - 1", row(8, 255, 255, 127), 0, 4, "0{1=2097151}");
        reads("2^21", row(8, 128, 128, 128, 1), 0, 5, "0{1=2097152}");
        reads("-1", row(8, 255, 255, 255, 255, 15), 0, 11, "0{1=-1}");
        reads("0 in ten bytes", join(row(8), times(9, 128), row(0)), 0, 2, "0{1=0}");

        says("ZIG likewise as few as can be");
        reads("63", row(16, 126), 0, 2, "0{2=63}");
        reads("-64", row(16, 127), 0, 2, "0{2=-64}");
        reads("64", row(16, 128, 1), 0, 3, "0{2=64}");
        reads("-65", row(16, 129, 1), 0, 3, "0{2=-65}");
        reads("8191", row(16, 254, 127), 0, 3, "0{2=8191}");
        reads("8192", row(16, 128, 128, 1), 0, 4, "0{2=8192}");
        reads("-2^27", row(16, 255, 255, 255, 127), 0, 5, "0{2=-134217728}");
        reads("2^27", row(16, 128, 128, 128, 128, 1), 0, 6, "0{2=134217728}");

        says("Varints of tags and lengths are as short as can be.");
        reads("a long tag and a long length", row(162, 128, 0, 129, 128, 0, 9), 0, 3, "0{4=1[9]}");
        reads("BYTES of 127", join(row(34, 127), times(127, 3)), 0, 129, "0{4=127[3*127]}");
        reads("BYTES of 128", join(row(34, 128, 1), times(128, 3)), 0, 131, "0{4=128[3*128]}");
        reads("a PART of 127", join(row(42, 127, 34, 125), times(125, 3)), 0, 129, "0{5=1} 0{4=125[3*125]}");
        reads("a PART of 128", join(row(42, 128, 1, 34, 126), times(126, 3)), 0, 131, "0{5=1} 0{4=126[3*126]}");

        says("values of REPEATED INT, ZIG and FIXED all in one PACKED element");
        reads("one value", row(48, 5), 0, 3, "0{6=5}");
        String minus = "6=-1" + ",-1".repeat(11);
        reads("a row of 120", join(row(50, 60), times(12, 255, 255, 255, 255, 15)), 0, 122, "0{" + minus + "}");
        reads("a row of 127", join(row(50, 67), times(12, 255, 255, 255, 255, 15), row(1, 1, 1, 1, 1, 1, 1)), 0, 129,
                "0{" + minus + ",1".repeat(7) + "}");
        reads("a row of 128", join(row(50, 68), times(12, 255, 255, 255, 255, 15), row(1, 1, 1, 1, 1, 1, 1, 1)), 0, 131,
                "0{" + minus + ",1".repeat(8) + "}");
        reads("the longest that can be", join(row(50, 195, 1), times(39, 255, 255, 255, 255, 15)), 0, 393,
                "0{6=-1" + ",-1".repeat(38) + "}");
    }

    private static void writes(String what, int[] body, int... due) {
        Run there = WIDE.bytes(framed(withLength(body.length, body)));
        int[] all = withLength(due.length, due);
        int left = 255 - all.length;
        edge(what, there, there.answer(1), due.length, "sending(0)=" + left, "sending(1)=" + left,
                out(frames(1, false, all)));
    }

    private static void writtenAgain() {
        says("for each node the fields by their numbers, all values of each");
        writes("no values", row());
        writes("no values but SKIPPED ones", row(88, 1, 90, 0));
        writes("from 15 down to 1", row(120, 7, 82, 0, 74, 1, 6, 66, 4, 1, 2, 3, 4, 58, 1, 3, 50, 1, 2, 42, 0, 34, 0,
                29, 5, 6, 7, 8, 16, 1, 8, 0), 8, 0, 16, 1, 29, 5, 6, 7, 8, 34, 0, 42, 0, 50, 1, 2, 58, 1, 3, 66, 4, 1,
                2, 3, 4, 74, 1, 6, 82, 0, 120, 7);
        writes("values of a field between those of others", row(48, 1, 74, 1, 5, 48, 2, 74, 1, 6, 48, 3),
                50, 3, 1, 2, 3, 74, 1, 5, 74, 1, 6);
        writes("nodes in nodes", row(82, 6, 42, 4, 82, 2, 8, 1, 42, 2, 8, 2, 82, 2, 8, 3), 42, 2, 8, 2, 82, 6, 42, 4,
                82, 2, 8, 1, 82, 2, 8, 3);
        writes("a node that grew later", row(42, 2, 16, 1, 82, 2, 8, 3, 42, 2, 8, 2), 42, 4, 8, 2, 16, 1, 82, 2, 8, 3);
        writes("16 nodes", times(15, 82, 2, 8, 5), times(15, 82, 2, 8, 5));

        says("INT as a varint of 10 bytes if it is below 0 (as 2^64 more), else of as few as can be, ZIG likewise as "
                + "few as can be, FIXED four");
        writes("INT 0", row(8, 128, 128, 0), 8, 0);
        writes("INT 127", row(8, 255, 0), 8, 127);
        writes("INT 128", row(8, 128, 129, 0), 8, 128, 1);
        writes("INT 2^31 - 1", row(8, 255, 255, 255, 255, 7), 8, 255, 255, 255, 255, 7);
        writes("INT -2^31", row(8, 128, 128, 128, 128, 8), 8, 128, 128, 128, 128, 248, 255, 255, 255, 255, 1);
        writes("INT -1", row(8, 255, 255, 255, 255, 15), 8, 255, 255, 255, 255, 255, 255, 255, 255, 255, 1);
        writes("ZIG 0", row(16, 128, 0), 16, 0);
        writes("ZIG 63", row(16, 126), 16, 126);
        writes("ZIG -64", row(16, 127), 16, 127);
        writes("ZIG 64", row(16, 128, 1), 16, 128, 1);
        writes("ZIG 2^31 - 1", row(16, 254, 255, 255, 255, 15), 16, 254, 255, 255, 255, 15);
        writes("ZIG -2^31", row(16, 255, 255, 255, 255, 127), 16, 255, 255, 255, 255, 15);
        writes("FIXED 0", row(29, 0, 0, 0, 0), 29, 0, 0, 0, 0);
        writes("FIXED 2^31 - 1", row(29, 255, 255, 255, 127), 29, 255, 255, 255, 127);
        writes("FIXED -2^31", row(29, 0, 0, 0, 128), 29, 0, 0, 0, 128);
        writes("FIXED in a row, and what is behind it", row(69, 1, 2, 3, 254, 69, 255, 0, 0, 128, 120, 1),
                66, 8, 1, 2, 3, 254, 255, 0, 0, 128, 120, 1);

        says("BYTES and PARTS with length, each with its tag");
        writes("BYTES of 127", join(row(34, 127), times(127, 3)), join(row(34, 127), times(127, 3)));
        writes("BYTES of 128", join(row(34, 128, 1), times(128, 3)), join(row(34, 128, 1), times(128, 3)));
        writes("a PART that grows", join(row(42, 82, 50, 80), times(16, 255, 255, 255, 255, 15)),
                join(row(42, 163, 1, 50, 160, 1), times(16, 255, 255, 255, 255, 255, 255, 255, 255, 255, 1)));
        writes("bytes of 0 and 255", row(74, 2, 0, 255, 74, 0, 74, 1, 128), 74, 2, 0, 255, 74, 0, 74, 1, 128);
    }

    private static void writtenBehindOthers() {
        says("comes behind its QUEUE");
        // 60 bytes go at once, 3 wait; then 5 more do, and 5 of another message.
        Run wait = ALL.bytes(framed(withLength(60, join(row(34, 58), times(58, 9))))).answer(1)
                .data(1, 0, 0, 2, 8, 7).answer(1).data(1, 0, 0, 2, 16, 3).answer(1).drain();
        edge("in their order", wait, wait.frame(WINDOW, 0, 1, 20), 1, "sending(0)=27", "sending(1)=7",
                "OUT=13 0 0 1 9 9 9 0 0 2 8 7 0 0 2 16 3");
    }
}
