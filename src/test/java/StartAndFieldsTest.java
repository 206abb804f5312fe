/** Promises 1 and 2. */
public final class StartAndFieldsTest {
    public static void main(String[] args) {
        newObject();
        fieldsInside();
        fieldsOutside();
        fieldsAfterOpening();
        fieldSetAgain();
        Check.end();
    }

    private static void newObject() {
        Desk x = new Desk();
        Check.same("BAD", CallDesk.BAD, -1);
        Check.same("DOWN", CallDesk.DOWN, -2);
        Check.same("FULL", CallDesk.FULL, -3);
        Check.same("state of the connection", x.state(0), 1);
        Check.same("code of the connection", x.code(0), 0);
        Check.same("window in", x.window(0, false), 100);
        Check.same("window out", x.window(0, true), 100);
        for (int s = 1; s <= 7; s++) {
            Check.same("state", x.state(s), 0);
            Check.same("code", x.code(s), 0);
            Check.same("window in", x.window(s, false), 0);
            Check.same("window out", x.window(s, true), 0);
            Check.same("messages", x.messages(s), 0);
            Check.same("nodes", x.nodes(s), 0);
            Check.same("header", x.header(s, 0), -1);
            Check.same("typeOf", x.typeOf(s, 0), -1);
        }
        Check.same("table", x.table(0), -1);
        Check.same("MOST", x.table(-1), 16);
        Check.same("out", x.out(-1), 0);
        // No fields: an element of any number is skipped.
        Line line = new Line().open(1, 0);
        line.message(1, 8, 5, 18, 1, 9, 29, 1, 2, 3, 4);
        Check.same("skipped without fields", line.desk.skipped(1), 10);
        Check.same("many without fields", line.desk.many(1, 0, 1), 0);
    }

    private static void fieldsInside() {
        for (int type = 0; type <= 3; type++) {
            Desk x = new Desk();
            for (int number = 1; number <= 15; number++) {
                for (int kind = -1; kind <= 7; kind++) {
                    Check.same("field", x.field(type, number, kind, kind % 2 == 0), true);
                }
            }
        }
    }

    private static void fieldsOutside() {
        Line line = new Line();
        Desk x = line.desk;
        Check.same("field inside", x.field(0, 1, 0, true), true);
        int[] far = {Integer.MIN_VALUE, -1000, 1000, 1 << 28, Integer.MAX_VALUE};
        for (int n : far) {
            Check.same("type " + n, x.field(n, 1, 3, false), false);
            Check.same("number " + n, x.field(0, n, 3, false), false);
            Check.same("kind " + n, x.field(0, 1, n, false), false);
        }
        Check.same("type -1", x.field(-1, 1, 3, false), false);
        Check.same("type 4", x.field(4, 1, 3, false), false);
        Check.same("number 0", x.field(0, 0, 3, false), false);
        Check.same("number 16", x.field(0, 16, 3, false), false);
        Check.same("kind -2", x.field(0, 1, -2, false), false);
        Check.same("kind 8", x.field(0, 1, 8, false), false);
        line.open(1, 0);
        line.message(1, 8, 5, 10, 2, 6, 7);
        Check.same("the field stayed as it was", x.many(1, 0, 1), 3);
        Check.same("its values", x.value(1, 0, 1, 2), 7);
    }

    private static void fieldsAfterOpening() {
        Line line = new Line();
        Desk x = line.desk;
        Check.same("field before", x.field(0, 1, 0, false), true);
        line.head(1, 1, 0, 3);
        Check.same("field when all are IDLE yet", x.field(0, 2, 0, false), true);
        line.bytes(129);
        Check.same("field when one is OPEN", x.field(0, 3, 0, false), false);
        line.message(3, 8, 1, 16, 2, 24, 3);
        Check.same("many 1", x.many(3, 0, 1), 1);
        Check.same("many 2", x.many(3, 0, 2), 1);
        Check.same("many 3", x.many(3, 0, 3), 0);
        line.frame(Line.RESET, 0, 3, 1);
        Check.same("field when one is SHUT", x.field(0, 3, 0, false), false);

        for (int s = 1; s <= 7; s++) {
            Line one = new Line().open(s, 0);
            Check.same("field when " + s + " alone is OPEN", one.desk.field(0, 1, 0, false), false);
        }
        Line shut = new Line();
        shut.frame(Line.PING, 0, 1, 1);
        Check.same("the connection is DOWN", shut.desk.state(0), 4);
        Check.same("field when DOWN, with all IDLE", shut.desk.field(0, 1, 0, false), true);
    }

    private static void fieldSetAgain() {
        Line line = new Line();
        Desk x = line.desk;
        x.field(2, 4, 0, false);
        x.field(2, 4, 3, true);
        x.field(2, 5, 0, false);
        x.field(2, 5, -1, true);
        x.field(1, 6, 0, false);
        line.open(1, 2);
        line.message(1, 34, 1, 77, 40, 5, 48, 6);
        Check.same("the later kind", x.byteOf(1, 0, 4, 0, 0), 77);
        Check.same("none again", x.many(1, 0, 5), 0);
        Check.same("of another type", x.many(1, 0, 6), 0);
        Check.same("skipped", x.skipped(1), 4);
    }
}
