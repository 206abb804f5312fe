/**
 * What the document says of the whole: two desks are the two ends of one connection, each taking in what the other
 * one sends. HEADERS alone come from elsewhere, as a desk sends none.
 */
public final class ConversationTest extends Edges {
    private Run near;
    private Run far;

    private ConversationTest(Run both) {
        near = both;
        far = both;
    }

    public static void main(String[] args) {
        says("One end of a connection that carries calls");
        callAndAnswer();
        windowsOfBothEnds();
        severalStreams();
        cancelled();
        pinged();
        away();
        says("written again in the shortest order");
        shortestOrder();
        Check.end();
    }

    /** Type 0: INT 1, ZIG 2, FIXED 3, BYTES 4, PART 5 of type 0; 6 to 10 the same REPEATED. Streams are of type 0. */
    private static ConversationTest on(int... streams) {
        Run both = new Run();
        for (int kind = 0; kind < 5; kind++) {
            both = both.field(0, 1 + kind, kind, false).field(0, 6 + kind, kind, true);
        }
        for (int s : streams) {
            both = both.open(s, 0);
        }
        return new ConversationTest(both);
    }

    /** With a message that comes from elsewhere, so that what it takes of the windows is granted again at once. */
    private static Run given(Run end, int s, int... body) {
        int[] all = join(row(0, 0, body.length), body);
        return end.data(s, all).grant(s, all.length).grant(0, all.length).drain();
    }

    private void send() {
        int[] bytes = near.out();
        near = near.drain();
        far = far.bytes(bytes);
    }

    private void sendBack() {
        turnAround();
        send();
        turnAround();
    }

    private void turnAround() {
        Run other = near;
        near = far;
        far = other;
    }

    private static String seen(Run end, String name) {
        return end.sight().get(name);
    }

    private static void sameText(String what, String got, String due) {
        if (!got.equals(due)) {
            Check.told(what + " is " + got + ", due is " + due);
        }
    }

    private void sameMessages(String what, int s) {
        for (String name : new String[] {"message(" + s + ")", "size(" + s + ")"}) {
            sameText(what + ": " + name, seen(far, name), seen(near, name));
        }
    }

    /** What one end may still send is what the other one still takes. */
    private void sameWindows(String what, int... streams) {
        for (int s : streams) {
            same(what + ": there of " + s, far.desk().window(s, false), near.desk().window(s, true));
            same(what + ": back of " + s, near.desk().window(s, false), far.desk().window(s, true));
        }
    }

    private static void callAndAnswer() {
        ConversationTest call = on(1);
        call.near = given(call.near, 1, 8, 5, 34, 3, 98, 97, 99, 50, 2, 7, 8, 42, 2, 8, 9).answer(1).finish(1);
        call.send();
        same("the far end has it", call.far.desk().messages(1), 1);
        call.sameMessages("there", 1);
        same("the near end has ended", call.near.desk().state(1), 3);
        same("the far end knows", call.far.desk().state(1), 2);
        call.far = call.far.answer(1);
        call.sendBack();
        same("the near end has two", call.near.desk().messages(1), 2);
        call.sameMessages("back", 1);
        call.sameWindows("there and back", 0, 1);
        call.far = call.far.finish(1);
        call.sendBack();
        for (Run end : new Run[] {call.near, call.far}) {
            same("SHUT, without an error", end.desk().state(1) * 1000 + end.desk().code(1), 4000);
            same("nothing more is sent", end.desk().out(-1), 0);
        }
    }

    private static void windowsOfBothEnds() {
        ConversationTest call = on(3);
        // Numbers below 0 are of ten bytes when they are written again, so that 97 are to go, more than a window lets.
        int[] below = {255, 255, 255, 255, 15};
        call.near = given(call.near, 3, join(row(50, 45), times(9, below), row(8, 1))).answer(3);
        call.send();
        same("60 bytes have gone", call.far.desk().window(3, false), 0);
        same("but no message", call.far.desk().messages(3), 0);
        call.far = call.far.grant(3, 30);
        call.sendBack();
        call.send();
        same("30 more have gone", call.far.desk().window(3, false), 0);
        call.far = call.far.grant(3, 255).grant(0, 155);
        call.sendBack();
        call.send();
        same("the whole message has gone", call.far.desk().messages(3), 1);
        call.sameMessages("there", 3);
        same("of the connection too", call.far.desk().window(0, false), 100 + 155 - 97);
        call.sameWindows("at last", 0, 3);
    }

    private static void severalStreams() {
        ConversationTest call = on(1, 2, 7);
        for (int s : new int[] {1, 2, 7}) {
            call.near = given(call.near, s, 8, s, 56, 1 + s);
            call.far = given(call.far, s, 8, 10 + s, 56, 2 + s);
        }
        for (int s : new int[] {1, 2, 7}) {
            call.near = call.near.answer(s).answer(s);
            call.far = call.far.answer(s);
        }
        call.send();
        call.sendBack();
        call.sameWindows("after both", 0, 1, 2, 7);
        for (int s : new int[] {1, 2, 7}) {
            same("near messages of " + s, call.near.desk().messages(s), 2);
            same("far messages of " + s, call.far.desk().messages(s), 3);
            same("near has what the far one had got last", call.near.desk().value(s, 0, 1, 0), 10 + s);
            same("far has what the near one had", call.far.desk().value(s, 0, 1, 0), s);
        }
    }

    private static void cancelled() {
        ConversationTest call = on(1, 2);
        call.near = call.near.cancel(1, 20).cancel(2, 99);
        call.send();
        same("code of 1 here", call.near.desk().code(1), 20);
        same("code of 1 there", call.far.desk().code(1), 120);
        same("code of 2 there", call.far.desk().code(2), 199);
        same("SHUT there", call.far.desk().state(2), 4);
        same("that is not answered", call.far.desk().out(-1), 0);
    }

    private static void pinged() {
        ConversationTest call = on();
        call.near = call.near.frame(PING, 0, 0, 77);
        call.send();
        same("an answered PING is not answered again", call.far.desk().out(-1), 0);
        same("the far end is there", call.far.desk().state(0), 1);
    }

    private static void away() {
        ConversationTest call = on(1);
        call.near = call.near.frame(DATA, 0, 0);
        call.send();
        same("the near end is DOWN", call.near.desk().state(0), 4);
        same("the far one is not", call.far.desk().state(0), 1);
        same("nor is its stream SHUT", call.far.desk().state(1), 1);
        same("and it sends nothing", call.far.desk().out(-1), 0);
    }

    private static void shortestOrder() {
        passed("fields in any order", 6, 42, 2, 8, 9, 8, 1);
        passed("a value that another one takes the place of", 2, 8, 1, 8, 2);
        passed("varints that are too long", 5, 136, 128, 0, 133, 0, 162, 0, 129, 0, 9);
        passed("elements that are skipped", 2, 88, 1, 93, 1, 2, 3, 4, 90, 1, 1, 8, 3, 13, 1, 2, 3, 4);
        passed("numbers that are not packed", 5, 48, 1, 48, 2, 48, 3);
        passed("rows of numbers, one of them empty", 10, 66, 4, 1, 2, 3, 4, 66, 0, 69, 5, 6, 7, 8);
        passed("a part that goes on", 8, 42, 2, 8, 1, 16, 1, 42, 2, 16, 3);
        passed("parts of parts", 10, 82, 4, 82, 2, 8, 1, 82, 4, 42, 0, 42, 0);
        passed("numbers below 0", 25, 8, 255, 255, 255, 255, 15, 16, 1, 48, 254, 255, 255, 255, 15);
        passed("nothing", 0);
    }

    /** A message that the far end reads as the near one did, and writes again to the very same bytes. */
    private static void passed(String what, int size, int... body) {
        ConversationTest call = on(1);
        call.near = call.near.data(1, join(row(0, 0, body.length), body)).answer(1);
        same(what + ": size", call.near.desk().size(1), size);
        int[] bytes = call.near.out();
        call.send();
        same(what + ": messages", call.far.desk().messages(1), 1);
        call.sameMessages(what, 1);
        same(what + ": nothing is skipped", call.far.desk().skipped(1), 0);
        call.far = call.far.answer(1);
        sameText(what + ": what the far end writes", text(call.far.out()), text(bytes));
    }
}
