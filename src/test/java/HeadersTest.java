/** Promises 11 and 12: headers and their table. */
public final class HeadersTest {
    public static void main(String[] args) {
        formsOfHeaders();
        firstEight();
        typeIsTheFirst();
        longestRow();
        tableInOrder();
        tableMost();
        tableIsOneForAll();
        readWhenWhole();
        errors();
        outside();
        Check.end();
    }

    private static int pair(int name, int value) {
        return 256 * name + value;
    }

    private static void kept(Line line, int s, int... due) {
        for (int k = 0; k < due.length; k++) {
            Check.same("header " + k + " of " + s, line.desk.header(s, k), due[k]);
        }
        Check.same("behind the headers of " + s, line.desk.header(s, due.length), -1);
    }

    private static void table(Line line, int... due) {
        for (int k = 0; k < due.length; k++) {
            Check.same("table " + k, line.desk.table(k), due[k]);
        }
        Check.same("behind the table", line.desk.table(due.length), -1);
    }

    private static void formsOfHeaders() {
        Line line = new Line();
        line.frame(Line.HEADERS, 0, 1, 129, 130, 131, 132, 64, 200, 1, 127, 2);
        kept(line, 1, pair(1, 0), pair(1, 1), pair(1, 2), pair(1, 3), pair(200, 1), pair(63, 2));
        table(line, pair(63, 2), pair(200, 1));
        line.frame(Line.HEADERS, 0, 2, 0, 0, 255, 31, 254, 96, 7, 133, 135, 130, 64, 0, 0);
        kept(line, 2, pair(0, 255), pair(31, 254), pair(32, 7), pair(32, 7), pair(200, 1), pair(1, 1), 0);
        table(line, 0, pair(32, 7), pair(63, 2), pair(200, 1));
        line.frame(Line.HEADERS, 0, 3, 0, 255, 255, 129, 136);
        kept(line, 3, pair(255, 255), pair(1, 0), pair(200, 1));
        line.frame(Line.HEADERS, 0, 4, 133, 129);
        kept(line, 4, 0, pair(1, 0));
    }

    private static void firstEight() {
        Line line = new Line();
        line.frame(Line.HEADERS, 0, 1, 2, 1, 2, 2, 2, 3, 2, 4, 2, 5, 129);
        line.frame(Line.HEADERS, 1, 1, 3, 7, 3, 8, 3, 9);
        kept(line, 1, pair(2, 1), pair(2, 2), pair(2, 3), pair(2, 4), pair(2, 5), pair(1, 0), pair(3, 7), pair(3, 8));
        line.frame(Line.HEADERS, 0, 2, 2, 0, 2, 0, 2, 0, 2, 0, 2, 0, 2, 0, 2, 0, 2, 0, 1, 3);
        Check.same("a type behind eight others", line.desk.state(2), 1);
        line.frame(Line.DATA, 0, 2, 0, 0, 0);
        Check.same("it counts", line.desk.typeOf(2, 0), 3);
    }

    private static void typeIsTheFirst() {
        Line line = new Line();
        line.frame(Line.HEADERS, 0, 1, 2, 0, 1, 2, 129);
        line.frame(Line.DATA, 0, 1, 0, 0, 0);
        Check.same("the first one with name 1", line.desk.typeOf(1, 0), 2);
        Line zero = new Line();
        zero.frame(Line.HEADERS, 0, 1, 129, 1, 2, 1, 9);
        zero.frame(Line.DATA, 0, 1, 0, 0, 0);
        Check.same("the first one, which is 0", zero.desk.typeOf(1, 0), 0);
        line.frame(Line.HEADERS, 0, 2, 65, 4, 129);
        Check.same("it is above 3", line.desk.code(2), 6);
        line.frame(Line.HEADERS, 0, 3, 133, 129);
        Check.same("above 3, of the TABLE", line.desk.code(3), 6);
        line.frame(Line.HEADERS, 0, 4, 64, 1, 3);
        line.frame(Line.DATA, 0, 4, 0, 0, 0);
        Check.same("its name in a byte of its own", line.desk.typeOf(4, 0), 3);
        line.frame(Line.HEADERS, 0, 5, 133);
        Check.same("of the TABLE", line.desk.state(5), 1);
        line.frame(Line.HEADERS, 0, 6, 2, 1);
        Check.same("none", line.desk.code(6), 6);
        // The type that another payload told is not taken for this one's.
        line.frame(Line.HEADERS, 1, 5, 129);
        line.frame(Line.HEADERS, 0, 7);
        Check.same("none at all", line.desk.code(7), 6);
    }

    private static void longestRow() {
        Line line = new Line();
        line.frame(Line.HEADERS, 0, 1, Line.join(Line.times(62, 48), Line.row(130)));
        Check.same("the 63rd byte alone tells the type", line.desk.state(1), 1);
        line.frame(Line.HEADERS, 1, 1, Line.join(Line.times(62, 129), Line.row(128)));
        Check.same("the 63rd byte alone is wrong", line.desk.code(0), 4);
    }

    private static void tableInOrder() {
        Line line = new Line();
        line.frame(Line.HEADERS, 0, 1, 129, 66, 1, 66, 2, 66, 3);
        table(line, pair(2, 3), pair(2, 2), pair(2, 1));
        // One that is named again does not come into the table again.
        line.frame(Line.HEADERS, 0, 2, 135, 130, 2, 9);
        table(line, pair(2, 3), pair(2, 2), pair(2, 1));
        kept(line, 2, pair(2, 1), pair(1, 1), pair(2, 9));
        int[] many = new int[32];
        for (int k = 0; k < 16; k++) {
            many[2 * k] = 67;
            many[2 * k + 1] = k;
        }
        line.frame(Line.HEADERS, 1, 1, many);
        for (int k = 0; k < 16; k++) {
            Check.same("table " + k, line.desk.table(k), pair(3, 15 - k));
        }
        Check.same("table 16", line.desk.table(16), -1);
        line.frame(Line.HEADERS, 1, 2, 148);
        Check.same("the oldest is named", line.desk.header(2, 3), pair(3, 0));
        Check.same("one further breaks it", line.frame(Line.HEADERS, 1, 2, 149), CallDesk.DOWN);
    }

    private static void tableMost() {
        Line line = new Line();
        line.frame(Line.HEADERS, 0, 1, 129, 66, 1, 66, 2, 66, 3, 34);
        table(line, pair(2, 3), pair(2, 2));
        Check.same("MOST", line.desk.table(-1), 2);
        line.frame(Line.HEADERS, 0, 2, 129, 66, 4, 133, 134);
        table(line, pair(2, 4), pair(2, 3));
        kept(line, 2, pair(1, 0), pair(2, 4), pair(2, 4), pair(2, 3));
        line.frame(Line.HEADERS, 0, 3, 48, 66, 5, 129);
        table(line, pair(2, 5), pair(2, 4), pair(2, 3));
        line.frame(Line.HEADERS, 0, 4, 32, 66, 6, 129);
        table(line);
        Check.same("MOST", line.desk.table(-1), 0);
        kept(line, 4, pair(2, 6), pair(1, 0));
        line.frame(Line.HEADERS, 0, 5, 33, 66, 7, 66, 8, 129);
        table(line, pair(2, 8));
        // What went does not come back when MOST grows.
        line.frame(Line.HEADERS, 0, 6, 32, 48, 129);
        table(line);
        line.frame(Line.HEADERS, 0, 7, 129, 32, 66, 1, 133);
        Check.same("what just came is gone with MOST 0", line.desk.code(0), 4);
    }

    private static void tableIsOneForAll() {
        Line line = new Line().open(1, 0);
        line.desk.cancel(1, 20);
        line.frame(Line.HEADERS, 0, 1, 66, 7);
        table(line, pair(2, 7));
        kept(line, 1, pair(1, 0));
        line.frame(Line.HEADERS, 0, 2, 133);
        Check.same("no type", line.desk.code(2), 6);
        kept(line, 2, pair(2, 7));
    }

    private static void readWhenWhole() {
        Line line = new Line();
        line.head(3, Line.HEADERS, 0, 1);
        line.bytes(66, 9);
        table(line);
        kept(line, 1);
        line.bytes(129);
        table(line, pair(2, 9));
        kept(line, 1, pair(2, 9), pair(1, 0));
        // A stream that is cancelled before the payload is whole keeps none of it.
        line.head(2, Line.HEADERS, 1, 1);
        line.bytes(66);
        line.desk.cancel(1, 21);
        line.bytes(10);
        table(line, pair(2, 10), pair(2, 9));
        kept(line, 1, pair(2, 9), pair(1, 0));
        Check.same("its code stays", line.desk.code(1), 21);
    }

    private static void wrong(String what, int... tail) {
        Line line = new Line();
        int[] payload = Line.join(Line.row(66, 5, 129), tail);
        Check.same(what, line.frame(Line.HEADERS, 0, 2, payload), CallDesk.DOWN);
        Check.same(what + ": code", line.desk.code(0), 4);
        Check.same(what + ": state of the stream", line.desk.state(2), 0);
        Check.same(what + ": window of the stream", line.desk.window(2, true), 0);
        table(line, pair(2, 5));
        kept(line, 2, pair(2, 5), pair(1, 0));
        line.sent(what, 1, 5, 0, 0, 4);
    }

    private static void errors() {
        wrong("i is 0", 128);
        wrong("i behind the TABLE", 134);
        wrong("i is 127", 255);
        wrong("m is 17", 49);
        wrong("m is 31", 63);
        wrong("no value", 66);
        wrong("no value, not for the TABLE", 3);
        wrong("no name", 64);
        wrong("no name, not for the TABLE", 0);
        wrong("a name but no value", 64, 9);
        wrong("a name but no value, not for the TABLE", 0, 9);
        wrong("nothing behind the error counts", 128, 66, 6);

        Line empty = new Line();
        Check.same("no TABLE yet", empty.frame(Line.HEADERS, 0, 1, 133), CallDesk.DOWN);

        Line open = new Line().open(1, 0);
        open.frame(Line.HEADERS, 1, 1, 2, 2, 128);
        Check.same("an OPEN stream does not end by them", open.desk.state(1), 1);
        kept(open, 1, pair(1, 0), pair(2, 2));
        open.sent("only one error", 1, 5, 0, 0, 4);

        Line shut = new Line().open(1, 0);
        shut.desk.cancel(1, 20);
        Check.same("of a SHUT one", shut.frame(Line.HEADERS, 0, 1, 128), CallDesk.DOWN);
    }

    private static void outside() {
        Line line = new Line().open(1, 0);
        line.frame(Line.HEADERS, 1, 1, 66, 1);
        for (int k : new int[] {-1, -2, 2, 8, 1 << 28, Integer.MIN_VALUE, Integer.MAX_VALUE}) {
            Check.same("header " + k, line.desk.header(1, k), -1);
        }
        for (int s : new int[] {-1, 0, 2, 8, 1 << 29, Integer.MIN_VALUE, Integer.MAX_VALUE}) {
            Check.same("header of " + s, line.desk.header(s, 0), -1);
        }
        for (int k : new int[] {-2, 1, 16, 17, Integer.MIN_VALUE, Integer.MAX_VALUE}) {
            Check.same("table " + k, line.desk.table(k), -1);
        }
    }
}
