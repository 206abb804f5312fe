/** Promises 13 to 19: messages, their elements, values, nodes and errors. */
public final class MessagesTest {
    public static void main(String[] args) {
        prefixes();
        severalMessages();
        latestAndNext();
        numbers();
        longVarints();
        packedRows();
        bytesValues();
        parts();
        singleAndRepeated();
        knownOrSkipped();
        skippedBytes();
        wireErrors();
        longErrors();
        endsErrors();
        muchErrors();
        leastErrors();
        looksOutside();
        Check.end();
    }

    private static Line read(int... message) {
        Line line = Line.ofAllKinds();
        line.message(1, message);
        Check.same("state", line.desk.state(1), 1);
        Check.same("messages", line.desk.messages(1), 1);
        return line;
    }

    /** The message must be shut by this code exactly at its byte `at` (1 the first one of the message). */
    private static void broken(String what, int code, int at, int length, int... bytes) {
        Line line = Line.ofAllKinds();
        line.desk.grant(0, 155);
        line.desk.grant(1, 195);
        line.frame(Line.DATA, 0, 1, 0, 0, length);
        for (int k = 0; k < bytes.length; k++) {
            Check.same(what + ": state before byte " + (k + 1), line.desk.state(1), k < at ? 1 : 4);
            line.frame(Line.DATA, 0, 1, bytes[k]);
        }
        Check.same(what + ": state", line.desk.state(1), 4);
        Check.same(what + ": code", line.desk.code(1), code);
        Check.same(what + ": nodes", line.desk.nodes(1), 0);
        Check.same(what + ": messages", line.desk.messages(1), 0);
        Check.same(what + ": the connection", line.desk.state(0), 1);
        line.sent(what, 1, 3, 0, 0, 155, 1, 3, 0, 1, 195, 1, 2, 0, 1, code);
    }

    private static void prefixes() {
        for (int b : new int[] {1, 128, 255}) {
            Line line = Line.ofAllKinds();
            line.frame(Line.DATA, 0, 1, b);
            Check.same("first byte " + b, line.desk.code(1), 7);
        }
        Line high = Line.ofAllKinds();
        high.frame(Line.DATA, 0, 1, 0, 255);
        Check.same("not before the third byte", high.desk.state(1), 1);
        high.frame(Line.DATA, 0, 1, 0);
        Check.same("length 65280", high.desk.code(1), 8);
        Line above = Line.ofAllKinds();
        above.frame(Line.DATA, 0, 1, 0, 0, 201);
        Check.same("length 201", above.desk.code(1), 8);
        Line most = Line.ofAllKinds();
        most.frame(Line.DATA, 0, 1, 0, 0, 200);
        Check.same("length 200", most.desk.state(1), 1);
        Line next = Line.ofAllKinds();
        next.frame(Line.DATA, 0, 1, 0, 0, 0, 3, 0, 0);
        Check.same("the second message's first byte", next.desk.code(1), 7);
        Check.same("messages before that", next.desk.messages(1), 1);
        Check.same("the latest one is there", next.desk.nodes(1), 1);
        next.sent("one error alone", 1, 2, 0, 1, 7);
        // By the words of promise 14 the three bytes are there, though they are an error.
        Line third = Line.ofAllKinds();
        third.frame(Line.DATA, 0, 1, 0, 0, 0, 0, 1, 0);
        Check.same("the second message's length", third.desk.code(1), 8);
        Check.same("nodes then", third.desk.nodes(1), 0);
        Line longest = Line.ofAllKinds();
        longest.message(1, Line.join(Line.row(34, 197, 1), Line.times(197, 7)));
        Check.same("200 bytes", longest.desk.value(1, 0, 4, 0), 197);
        Check.same("its last byte", longest.desk.byteOf(1, 0, 4, 0, 196), 7);
    }

    private static void severalMessages() {
        Line line = Line.ofAllKinds();
        line.frame(Line.DATA, 0, 1, 0, 0, 0, 0, 0, 2, 8, 5, 0, 0, 3, 8);
        Check.same("two whole", line.desk.messages(1), 2);
        Check.same("the third has begun", line.desk.nodes(1), 0);
        line.frame(Line.DATA, 0, 1, 200);
        line.frame(Line.DATA, 0, 1, 3);
        Check.same("three whole", line.desk.messages(1), 3);
        Check.same("its value", line.desk.value(1, 0, 1, 0), 456);
        line.message(1);
        Check.same("an empty one", line.desk.messages(1), 4);
        Check.same("its node", line.desk.nodes(1), 1);
        Check.same("no values are left of others", line.desk.many(1, 0, 1), 0);
        // Streams are read apart from each other.
        line.open(2, 0);
        line.frame(Line.DATA, 0, 1, 0, 0, 2, 8);
        line.frame(Line.DATA, 0, 2, 0, 0, 2, 16);
        line.frame(Line.DATA, 0, 1, 9);
        line.frame(Line.DATA, 0, 2, 3);
        Check.same("of stream 1", line.desk.value(1, 0, 1, 0), 9);
        Check.same("of stream 2", line.desk.value(2, 0, 2, 0), -2);
    }

    private static void latestAndNext() {
        Line line = read(8, 5, 34, 1, 77, 120, 1);
        Desk x = line.desk;
        line.frame(Line.DATA, 0, 1, 0, 0);
        Check.same("two bytes of the next: nodes", x.nodes(1), 1);
        Check.same("two bytes of the next: value", x.value(1, 0, 1, 0), 5);
        Check.same("two bytes of the next: skipped", x.skipped(1), 2);
        line.frame(Line.DATA, 0, 1, 2);
        Check.same("messages", x.messages(1), 1);
        Check.same("nodes", x.nodes(1), 0);
        Check.same("typeOf", x.typeOf(1, 0), -1);
        Check.same("many", x.many(1, 0, 1), 0);
        Check.same("value", x.value(1, 0, 1, 0), 0);
        Check.same("byteOf", x.byteOf(1, 0, 4, 0, 0), -1);
        Check.same("skipped", x.skipped(1), 0);
        Check.same("size", x.size(1), 0);
        Check.same("answer", x.answer(1), CallDesk.BAD);
        line.frame(Line.DATA, 0, 1, 8, 6);
        Check.same("nodes when it is whole", x.nodes(1), 1);
        Check.same("value when it is whole", x.value(1, 0, 1, 0), 6);
        line.frame(Line.RESET, 0, 1, 0);
        Check.same("it stays when the stream is SHUT", x.value(1, 0, 1, 0), 6);
    }

    private static void number(String what, int field, int due, int... message) {
        Line line = read(message);
        Check.same(what, line.desk.value(1, 0, field, 0), due);
        Check.same(what + ": many", line.desk.many(1, 0, field), 1);
        Check.same(what + ": skipped", line.desk.skipped(1), 0);
    }

    private static void numbers() {
        number("INT 0", 1, 0, 8, 0);
        number("INT 300", 1, 300, 8, 172, 2);
        number("INT 2^31 - 1", 1, Integer.MAX_VALUE, 8, 255, 255, 255, 255, 7);
        number("INT 2^31", 1, Integer.MIN_VALUE, 8, 128, 128, 128, 128, 8);
        number("INT 2^32 - 1", 1, -1, 8, 255, 255, 255, 255, 15);
        number("INT -1 of ten bytes", 1, -1, 8, 255, 255, 255, 255, 255, 255, 255, 255, 255, 1);
        number("ZIG 0", 2, 0, 16, 0);
        number("ZIG 1", 2, -1, 16, 1);
        number("ZIG 2", 2, 1, 16, 2);
        number("ZIG 2^32 - 1", 2, Integer.MIN_VALUE, 16, 255, 255, 255, 255, 15);
        number("ZIG 2^32 - 2", 2, Integer.MAX_VALUE, 16, 254, 255, 255, 255, 15);
        number("FIXED", 3, 0x04030201, 29, 1, 2, 3, 4);
        number("FIXED below 0", 3, 0xFE000080, 29, 128, 0, 0, 254);
    }

    private static void longVarints() {
        number("bits above 2^32", 1, 5, 8, 133, 128, 128, 128, 240, 127);
        number("ten bytes, the last of any value", 1, 1, 8, 129, 128, 128, 128, 128, 128, 128, 128, 128, 127);
        number("a tag of ten bytes", 1, 7, 136, 128, 128, 128, 128, 128, 128, 128, 128, 127, 7);
        number("a tag modulo 2^32", 1, 7, 136, 128, 128, 128, 16, 7);
        Line line = read(162, 128, 0, 129, 128, 128, 128, 128, 0, 9);
        Check.same("a length of six bytes", line.desk.byteOf(1, 0, 4, 0, 0), 9);
        Line far = read(128, 128, 128, 128, 8, 3);
        Check.same("a number that is as great as can be is skipped", far.desk.skipped(1), 6);
    }

    private static void packedRows() {
        Line line = read(50, 4, 1, 172, 2, 3, 48, 4, 50, 0, 50, 1, 5);
        int[] due = {1, 300, 3, 4, 5};
        Check.same("INT: many", line.desk.many(1, 0, 6), 5);
        for (int k = 0; k < due.length; k++) {
            Check.same("INT " + k, line.desk.value(1, 0, 6, k), due[k]);
        }
        line = read(58, 3, 1, 2, 3, 56, 4);
        Check.same("ZIG: many", line.desk.many(1, 0, 7), 4);
        Check.same("ZIG 2", line.desk.value(1, 0, 7, 2), -2);
        Check.same("ZIG 3", line.desk.value(1, 0, 7, 3), 2);
        line = read(66, 8, 1, 0, 0, 0, 0, 0, 0, 1, 69, 2, 0, 0, 0);
        Check.same("FIXED: many", line.desk.many(1, 0, 8), 3);
        Check.same("FIXED 1", line.desk.value(1, 0, 8, 1), 1 << 24);
        Check.same("FIXED 2", line.desk.value(1, 0, 8, 2), 2);
        Check.same("nothing is skipped", line.desk.skipped(1), 0);
        line = read(50, 0);
        Check.same("an empty row", line.desk.many(1, 0, 6), 0);
        Check.same("it is not skipped", line.desk.skipped(1), 0);
    }

    private static void bytesValues() {
        Line line = read(74, 2, 5, 255, 74, 0, 74, 1, 9, 34, 3, 1, 2, 3, 34, 2, 7, 8);
        Desk x = line.desk;
        Check.same("REPEATED: many", x.many(1, 0, 9), 3);
        Check.same("REPEATED: lengths", x.value(1, 0, 9, 0) * 100 + x.value(1, 0, 9, 1) * 10 + x.value(1, 0, 9, 2), 201);
        Check.same("byte 1 of 0", x.byteOf(1, 0, 9, 0, 1), 255);
        Check.same("byte 0 of 1", x.byteOf(1, 0, 9, 1, 0), -1);
        Check.same("byte 0 of 2", x.byteOf(1, 0, 9, 2, 0), 9);
        Check.same("SINGLE: many", x.many(1, 0, 4), 1);
        Check.same("SINGLE: the later one", x.value(1, 0, 4, 0), 2);
        Check.same("its byte", x.byteOf(1, 0, 4, 0, 1), 8);
        Check.same("behind it", x.byteOf(1, 0, 4, 0, 2), -1);
        Check.same("an INT has no bytes", read(8, 200, 1).desk.byteOf(1, 0, 1, 0, 0), -1);
        Check.same("a PART has no bytes", read(42, 2, 8, 1).desk.byteOf(1, 0, 5, 0, 0), -1);
        Check.same("a last one that is empty", read(34, 0).desk.many(1, 0, 4), 1);
    }

    private static void parts() {
        Line line = new Line();
        Desk x = line.desk;
        x.field(0, 1, 5, true);
        x.field(0, 2, 6, false);
        x.field(1, 1, 0, false);
        x.field(1, 2, 6, false);
        x.field(2, 3, 7, true);
        x.field(3, 4, 3, false);
        line.open(1, 0);
        line.message(1, 10, 8, 8, 5, 18, 4, 26, 2, 34, 0, 18, 2, 26, 0, 10, 0, 18, 0);
        Check.same("nodes", x.nodes(1), 7);
        int[] types = {0, 1, 2, 3, 2, 3, 1};
        for (int k = 0; k < 7; k++) {
            Check.same("type of node " + k, x.typeOf(1, k), types[k]);
        }
        Check.same("type of node 7", x.typeOf(1, 7), -1);
        Check.same("the first part", x.value(1, 0, 1, 0), 1);
        Check.same("the second one", x.value(1, 0, 1, 1), 6);
        Check.same("the SINGLE one", x.value(1, 0, 2, 0), 4);
        Check.same("in node 1", x.value(1, 1, 2, 0), 2);
        Check.same("in node 2", x.value(1, 2, 3, 0), 3);
        Check.same("in node 4", x.value(1, 4, 3, 0), 5);
        Check.same("an INT in node 1", x.value(1, 1, 1, 0), 5);
        Check.same("none in node 6", x.many(1, 6, 1), 0);
        Check.same("empty BYTES in node 3", x.many(1, 3, 4), 1);
    }

    private static void singleAndRepeated() {
        Line line = read(42, 4, 8, 1, 48, 2, 8, 9, 42, 6, 8, 3, 48, 4, 42, 0, 42, 4, 42, 2, 8, 6, 8, 10);
        Desk x = line.desk;
        Check.same("a SINGLE part goes on in its node", x.nodes(1), 3);
        Check.same("many", x.many(1, 0, 5), 1);
        Check.same("its SINGLE INT", x.value(1, 1, 1, 0), 3);
        Check.same("its REPEATED INT", x.many(1, 1, 6), 2);
        Check.same("its REPEATED INT 1", x.value(1, 1, 6, 1), 4);
        Check.same("its own part", x.value(1, 1, 5, 0), 2);
        Check.same("that goes on too", x.value(1, 2, 1, 0), 6);
        Check.same("the later INT of node 0", x.value(1, 0, 1, 0), 10);
        Check.same("is one", x.many(1, 0, 1), 1);
        Check.same("not there", x.value(1, 0, 1, 1), 0);
    }

    private static void knownOrSkipped() {
        Line line = read(13, 1, 2, 3, 4, 10, 1, 5, 9, 1, 2, 3, 4, 5, 6, 7, 8);
        Check.same("INT of other wires", line.desk.many(1, 0, 1), 0);
        Check.same("they are skipped", line.desk.skipped(1), 17);
        line = read(24, 1, 26, 4, 1, 2, 3, 4, 64, 1, 65, 1, 2, 3, 4, 5, 6, 7, 8);
        Check.same("FIXED of other wires", line.desk.many(1, 0, 3) + line.desk.many(1, 0, 8), 0);
        Check.same("they are skipped", line.desk.skipped(1), 19);
        line = read(32, 1, 37, 1, 2, 3, 4, 72, 1, 40, 1, 80, 1);
        Check.same("BYTES and PARTS of other wires", line.desk.skipped(1), 13);
        Check.same("no nodes of that", line.desk.nodes(1), 1);
        line = read(18, 1, 1, 69, 1, 0, 0, 0, 61, 1, 2, 3, 4);
        Check.same("SINGLE ZIG is not packed, REPEATED ZIG is not FIXED", line.desk.skipped(1), 8);
        line = read(88, 1, 120, 2, 128, 1, 3, 136, 128, 1, 4);
        Check.same("numbers 11, 15, 16, 2049", line.desk.skipped(1), 11);
        line.open(2, 3);
        line.message(2, 128, 1, 3, 130, 1, 1, 7);
        Check.same("number 16 of type 3", line.desk.skipped(2), 7);
    }

    private static void skippedBytes() {
        Line line = read(8, 1, 42, 5, 96, 129, 0, 8, 2, 98, 2, 255, 255, 224, 0, 5);
        Check.same("in a part, and with long tags", line.desk.skipped(1), 3 + 4 + 3);
        Check.same("INT of the part", line.desk.value(1, 1, 1, 0), 2);
        Check.same("nothing", read(8, 1).desk.skipped(1), 0);
        Check.same("empty", read(98, 0).desk.skipped(1), 2);
        Check.same("a long length", read(98, 129, 0, 7).desk.skipped(1), 4);
        Check.same("L bytes that would be an error", read(98, 2, 7, 7).desk.skipped(1), 4);
        line = read(8, 1, 96, 1, 98, 1, 3);
        line.message(1, 8, 1, 96, 1);
        Check.same("each message has its own count", line.desk.skipped(1), 2);
        line.message(1, 96, 1);
        Check.same("at its first byte too", line.desk.skipped(1), 2);
        line.message(1);
        Check.same("none when it is empty", line.desk.skipped(1), 0);
    }

    private static void wireErrors() {
        for (int wire : new int[] {3, 4, 6, 7}) {
            broken("wire " + wire, 12, 1, 3, 8 + wire, 1, 1);
            broken("wire " + wire + " of an unknown number", 12, 2, 3, 128 + wire, 1, 1);
        }
        for (int wire = 0; wire < 8; wire++) {
            broken("number 0, wire " + wire, 12, 1, 3, wire, 1, 1);
        }
        broken("number 0 modulo 2^32", 12, 5, 6, 128, 128, 128, 128, 16, 0);
        broken("in a part", 12, 3, 5, 42, 3, 11, 1, 1);
    }

    private static void longErrors() {
        int[] ten = Line.times(10, 128);
        broken("a tag", 13, 10, 12, Line.join(ten, Line.row(0, 0)));
        broken("an INT", 13, 11, 12, Line.join(Line.row(8), ten, Line.row(0)));
        broken("one that is skipped", 13, 11, 12, Line.join(Line.row(88), ten, Line.row(0)));
        broken("a length", 13, 11, 12, Line.join(Line.row(34), ten, Line.row(0)));
        broken("in a row", 13, 13, 14, Line.join(Line.row(50, 12, 1), ten, Line.row(0)));
    }

    private static void endsErrors() {
        broken("a length above what is left", 14, 2, 4, 34, 3, 1, 1);
        broken("of one that is skipped", 14, 2, 4, 98, 3, 1, 1);
        broken("of a row", 14, 2, 4, 50, 3, 1, 1);
        broken("of a part", 14, 2, 4, 42, 3, 8, 1);
        broken("in a part", 14, 4, 8, 42, 4, 34, 3, 1, 1, 1, 1);
        broken("2^32 - 1", 14, 6, 8, 34, 255, 255, 255, 255, 15, 1, 1);
        broken("2^31", 14, 6, 8, 34, 128, 128, 128, 128, 8, 1, 1);
        broken("a tag alone", 14, 1, 1, 8);
        broken("half a tag", 14, 1, 1, 136);
        broken("half a varint", 14, 2, 2, 8, 128);
        broken("half a length", 14, 2, 2, 34, 128);
        broken("a length without its byte", 14, 2, 2, 34, 1);
        broken("three bytes of four", 14, 4, 4, 29, 1, 2, 3);
        broken("seven bytes of eight", 14, 8, 8, 97, 1, 2, 3, 4, 5, 6, 7);
        broken("a part that ends in a tag", 14, 3, 5, 42, 1, 8, 8, 1);
        broken("a part that ends in a number", 14, 4, 6, 42, 2, 29, 1, 2, 3);
        broken("a row that ends in a varint", 14, 4, 6, 50, 2, 1, 128, 1, 1);
        broken("a row that ends in four bytes", 14, 8, 10, 66, 6, 1, 2, 3, 4, 5, 6, 7, 8);
        broken("a row of three bytes", 14, 5, 6, 66, 3, 1, 2, 3, 4);
        broken("a part in a part", 14, 5, 8, 42, 3, 42, 1, 136, 1, 8, 1);
    }

    private static void muchErrors() {
        broken("a 49th value in a row", 15, 51, 60, Line.join(Line.row(50, 58), Line.times(58, 1)));
        broken("a 49th value, of two bytes", 15, 52, 53, Line.join(Line.row(50, 48), Line.times(48, 1), Line.row(8, 1, 0)));
        broken("a 49th value of BYTES, at its length", 15, 52, 54,
                Line.join(Line.row(50, 48), Line.times(48, 1), Line.row(34, 2, 0, 0)));
        broken("a 49th value that is a PART", 15, 52, 52, Line.join(Line.row(50, 48), Line.times(48, 1), Line.row(42, 0)));
        broken("a 49th value of four bytes", 15, 55, 56,
                Line.join(Line.row(50, 48), Line.times(48, 1), Line.row(29, 0, 0, 0, 0, 8)));
        broken("PARTS are values", 15, 52, 54, Line.join(Line.row(42, 0, 50, 49), Line.times(50, 1)));
        broken("a 17th node", 15, 32, 32, Line.times(16, 82, 0));
        broken("a fifth one of a chain", 15, 8, 8, 42, 6, 42, 4, 42, 2, 42, 0);
        broken("a fifth one, when its length is there", 15, 8, 10, 42, 8, 82, 6, 42, 4, 82, 2, 8, 1);

        Line most = read(Line.join(Line.row(50, 47), Line.times(47, 1), Line.row(8, 1, 8, 2)));
        Check.same("one that takes another's place", most.desk.value(1, 0, 1, 0), 2);
        most = read(Line.join(Line.row(50, 47), Line.times(47, 1), Line.row(34, 1, 9, 34, 1, 8)));
        Check.same("of BYTES", most.desk.byteOf(1, 0, 4, 0, 0), 8);
        most = read(Line.join(Line.row(50, 46), Line.times(46, 1), Line.row(42, 0, 42, 2, 8, 7, 42, 2, 8, 8)));
        Check.same("a PART that goes on", most.desk.value(1, 1, 1, 0), 8);
        most = read(Line.times(15, 82, 0));
        Check.same("16 nodes", most.desk.nodes(1), 16);
        most = read(Line.join(Line.times(14, 82, 0), Line.row(42, 0, 42, 0)));
        Check.same("16 nodes, one of which goes on", most.desk.nodes(1), 16);
        most = read(42, 4, 42, 2, 42, 0, 42, 6, 42, 4, 42, 2, 8, 5);
        Check.same("a chain of four that goes on", most.desk.value(1, 3, 1, 0), 5);
        most.message(1, Line.join(Line.row(50, 48), Line.times(48, 1)));
        Check.same("each message has its own 48", most.desk.many(1, 0, 6), 48);
        most.message(1, Line.join(Line.row(50, 48), Line.times(48, 1), Line.row(88, 1, 98, 1, 0)));
        Check.same("what is skipped is no value", most.desk.skipped(1), 5);
    }

    private static void leastErrors() {
        broken("LONG before ENDS", 13, 10, 10, Line.times(10, 128));
        broken("WIRE before ENDS", 12, 1, 1, 11);
        broken("ENDS before MUCH of nodes", 14, 32, 32, Line.join(Line.times(15, 82, 0), Line.row(82, 1)));
        broken("ENDS before MUCH of values", 14, 52, 52, Line.join(Line.row(50, 48), Line.times(48, 1), Line.row(34, 1)));
        broken("ENDS before MUCH of a chain", 14, 8, 8, 42, 6, 42, 4, 42, 2, 42, 1);
    }

    private static void looksOutside() {
        Line line = read(8, 5, 42, 2, 8, 6, 34, 1, 7);
        Desk x = line.desk;
        int[] far = {Integer.MIN_VALUE, -1 << 28, -2, -1, 16, 17, 99, 1 << 28, 1 << 29, Integer.MAX_VALUE};
        for (int n : far) {
            Check.same("typeOf of node " + n, x.typeOf(1, n), -1);
            Check.same("many of node " + n, x.many(1, n, 1), 0);
            Check.same("many of number " + n, x.many(1, 0, n), 0);
            Check.same("value of node " + n, x.value(1, n, 1, 0), 0);
            Check.same("value of number " + n, x.value(1, 0, n, 0), 0);
            Check.same("value " + n, x.value(1, 0, 1, n), 0);
            Check.same("byteOf of node " + n, x.byteOf(1, n, 4, 0, 0), -1);
            Check.same("byteOf of number " + n, x.byteOf(1, 0, n, 0, 0), -1);
            Check.same("byteOf of value " + n, x.byteOf(1, 0, 4, n, 0), -1);
            Check.same("byte " + n, x.byteOf(1, 0, 4, 0, n), -1);
            none(x, n);
        }
        none(x, 0);
        none(x, 2);
        none(x, 7);
        none(x, 8);
        Check.same("number 0", x.many(1, 0, 0), 0);
        Check.same("a number of no field", x.many(1, 0, 15), 0);
        Check.same("node 2", x.many(1, 2, 1), 0);
        Check.same("number 17 is not number 1 of the next node", x.value(1, 0, 17, 0), 0);
    }

    private static void none(Desk x, int s) {
        Check.same("messages of " + s, x.messages(s), 0);
        Check.same("nodes of " + s, x.nodes(s), 0);
        Check.same("typeOf of " + s, x.typeOf(s, 0), -1);
        Check.same("many of " + s, x.many(s, 0, 1), 0);
        Check.same("value of " + s, x.value(s, 0, 1, 0), 0);
        Check.same("byteOf of " + s, x.byteOf(s, 0, 4, 0, 0), -1);
        Check.same("skipped of " + s, x.skipped(s), 0);
        Check.same("size of " + s, x.size(s), 0);
        Check.same("header of " + s, x.header(s, 0), -1);
    }
}
