/** Promises 5 and 20: a message is measured, and written again in the shortest order. */
public final class WritingTest {
    public static void main(String[] args) {
        fieldsByNumbers();
        numbersAsShortAsCanBe();
        rows();
        partsWritten();
        longLengths();
        moreThan255();
        answersThatAreBad();
        answersThatAreFull();
        Check.end();
    }

    /** Answers the message and compares what goes out, frames put aside, with the bytes that are due. */
    private static void written(String what, int[] message, int... due) {
        Line line = Line.ofAllKinds();
        line.desk.grant(0, 155);
        line.desk.grant(1, 195);
        line.frame(Line.WINDOW, 0, 0, 155);
        line.frame(Line.WINDOW, 0, 1, 195);
        line.message(1, message);
        line.desk.drain();
        Check.same(what + ": size", line.desk.size(1), due.length);
        Check.same(what + ": answer", line.desk.answer(1), due.length);
        int[] all = Line.join(Line.row(0, due.length >> 8, due.length & 255), due);
        int at = 0;
        for (int k = 0; k < all.length; k++) {
            if (k % 16 == 0) {
                int n = Math.min(16, all.length - k);
                Check.same(what + ": LENGTH", line.desk.out(at), n);
                Check.same(what + ": SORT", line.desk.out(at + 1), 0);
                Check.same(what + ": FLAGS", line.desk.out(at + 2), 0);
                Check.same(what + ": STREAM", line.desk.out(at + 3), 1);
                at += 4;
            }
            Check.same(what + ": byte " + k, line.desk.out(at), all[k]);
            at++;
        }
        Check.same(what + ": OUT", line.desk.out(-1), at);
        Check.same(what + ": the stream's window", line.desk.window(1, true), 255 - all.length);
        Check.same(what + ": the connection's window", line.desk.window(0, true), 255 - all.length);
    }

    private static void fieldsByNumbers() {
        written("empty", Line.row());
        written("in the order of numbers", Line.row(34, 1, 7, 29, 1, 2, 3, 4, 16, 3, 8, 0),
                8, 0, 16, 3, 29, 1, 2, 3, 4, 34, 1, 7);
        written("what is skipped goes", Line.row(88, 1, 8, 1, 98, 1, 1), 8, 1);
        written("the last of SINGLE ones", Line.row(8, 1, 34, 2, 1, 1, 8, 2, 34, 0), 8, 2, 34, 0);
    }

    private static void numbersAsShortAsCanBe() {
        written("a long varint", Line.row(136, 0, 129, 128, 0), 8, 1);
        written("INT 127", Line.row(8, 127), 8, 127);
        written("INT 128", Line.row(8, 128, 1), 8, 128, 1);
        written("INT 16383", Line.row(8, 255, 127), 8, 255, 127);
        written("INT 16384", Line.row(8, 128, 128, 1), 8, 128, 128, 1);
        written("INT 2^21", Line.row(8, 128, 128, 128, 1), 8, 128, 128, 128, 1);
        written("INT 2^28", Line.row(8, 128, 128, 128, 128, 1), 8, 128, 128, 128, 128, 1);
        written("INT 2^31 - 1", Line.row(8, 255, 255, 255, 255, 7), 8, 255, 255, 255, 255, 7);
        written("INT -1", Line.row(8, 255, 255, 255, 255, 15), 8, 255, 255, 255, 255, 255, 255, 255, 255, 255, 1);
        written("INT -2^31", Line.row(8, 128, 128, 128, 128, 8), 8, 128, 128, 128, 128, 248, 255, 255, 255, 255, 1);
        written("ZIG -1", Line.row(16, 129, 0), 16, 1);
        written("ZIG 63 and -64", Line.row(58, 5, 126, 127, 128, 1, 0), 58, 5, 126, 127, 128, 1, 0);
        written("ZIG -2^31", Line.row(16, 255, 255, 255, 255, 127), 16, 255, 255, 255, 255, 15);
        written("ZIG 2^31 - 1", Line.row(16, 254, 255, 255, 255, 15), 16, 254, 255, 255, 255, 15);
    }

    private static void rows() {
        written("one by one becomes a row", Line.row(48, 1, 48, 128, 1, 48, 0), 50, 4, 1, 128, 1, 0);
        written("several rows become one", Line.row(50, 1, 1, 50, 0, 8, 9, 50, 2, 2, 3), 8, 9, 50, 3, 1, 2, 3);
        written("an empty row goes", Line.row(50, 0, 58, 0, 66, 0));
        written("FIXED", Line.row(69, 1, 2, 3, 4, 69, 5, 6, 7, 8), 66, 8, 1, 2, 3, 4, 5, 6, 7, 8);
        written("BYTES each with a tag", Line.row(74, 0, 8, 1, 74, 1, 5), 8, 1, 74, 0, 74, 1, 5);
        written("BYTES before others", Line.row(74, 2, 5, 6, 74, 1, 7, 34, 2, 8, 9, 82, 0),
                34, 2, 8, 9, 74, 2, 5, 6, 74, 1, 7, 82, 0);
    }

    private static void partsWritten() {
        written("an empty part", Line.row(42, 0), 42, 0);
        written("parts in order", Line.row(82, 2, 8, 2, 42, 2, 8, 1, 82, 0), 42, 2, 8, 1, 82, 2, 8, 2, 82, 0);
        written("a part that goes on", Line.row(42, 2, 16, 2, 48, 7, 42, 4, 8, 1, 48, 3),
                42, 7, 8, 1, 16, 2, 50, 1, 3, 50, 1, 7);
        written("a chain of four", Line.row(42, 9, 42, 7, 42, 5, 8, 255, 255, 255, 127, 8, 1),
                8, 1, 42, 9, 42, 7, 42, 5, 8, 255, 255, 255, 127);
        written("16 nodes", Line.times(15, 82, 2, 8, 5), Line.times(15, 82, 2, 8, 5));
        written("a part grows by what is in it", Line.row(82, 6, 8, 255, 255, 255, 255, 15),
                82, 11, 8, 255, 255, 255, 255, 255, 255, 255, 255, 255, 1);
    }

    private static void longLengths() {
        int[] text = Line.times(127, 3);
        written("BYTES of 127", Line.join(Line.row(34, 127), text), Line.join(Line.row(34, 127), text));
        text = Line.times(128, 3);
        written("BYTES of 128", Line.join(Line.row(34, 128, 1), text), Line.join(Line.row(34, 128, 1), text));
        int[] row = Line.times(16, 255, 255, 255, 255, 15);
        int[] due = Line.times(16, 255, 255, 255, 255, 255, 255, 255, 255, 255, 1);
        written("a row whose length grows", Line.join(Line.row(50, 80), row), Line.join(Line.row(50, 160, 1), due));
        written("a part whose length grows", Line.join(Line.row(42, 82, 50, 80), row),
                Line.join(Line.row(42, 163, 1, 50, 160, 1), due));
    }

    private static void moreThan255() {
        Line line = Line.ofAllKinds();
        int[] row = Line.times(39, 255, 255, 255, 255, 15);
        line.message(1, Line.join(Line.row(50, 195, 1), row));
        Check.same("size", line.desk.size(1), 393);
        Check.same("room in a window of 60", line.desk.answer(1), 393);
        Check.same("two answers are too much", line.desk.answer(1), CallDesk.FULL);
        // Before it stand the frames of the grants, of five bytes each.
        int at = 0;
        while (line.desk.out(at + 1) == Line.WINDOW) {
            at += 5;
        }
        Check.same("the higher byte", line.desk.out(at + 5), 1);
        Check.same("the lower byte", line.desk.out(at + 6), 137);
    }

    private static void answersThatAreBad() {
        Line line = Line.ofAllKinds();
        Desk x = line.desk;
        Check.same("no message", x.answer(1), CallDesk.BAD);
        line.message(1, 8, 1);
        for (int s : new int[] {-1, 0, 2, 8, Integer.MIN_VALUE, Integer.MAX_VALUE}) {
            Check.same("answer of " + s, x.answer(s), CallDesk.BAD);
        }
        line.frame(Line.DATA, 0, 1, 0, 0);
        Check.same("two bytes of the next", x.answer(1), 2);
        line.frame(Line.DATA, 0, 1, 2);
        Check.same("the three bytes of the next", x.answer(1), CallDesk.BAD);
        line.frame(Line.DATA, 0, 1, 8, 3);
        Check.same("the next is whole", x.answer(1), 2);
        Check.same("and again", x.answer(1), 2);
        line.sent("three answers", 5, 0, 0, 1, 0, 0, 2, 8, 1, 5, 0, 0, 1, 0, 0, 2, 8, 3, 5, 0, 0, 1, 0, 0, 2, 8, 3);
        line.frame(Line.DATA, 1, 1);
        Check.same("when the other side ended", x.answer(1), 2);
        line.frame(Line.WINDOW, 0, 1, 100);
        for (int k = 0; k < 15; k++) {
            x.answer(1);
        }
        x.finish(1);
        Check.same("one that is to FINISH", x.answer(1), CallDesk.BAD);
        line.frame(Line.WINDOW, 0, 0, 100);
        Check.same("one that is SHUT", x.state(1), 4);
        Check.same("one that is SHUT", x.answer(1), CallDesk.BAD);
        Check.same("its message is still there", x.value(1, 0, 1, 0), 3);
    }

    private static void answersThatAreFull() {
        Line line = Line.ofAllKinds();
        Desk x = line.desk;
        line.open(2, 0);
        line.message(1, Line.join(Line.row(34, 97), Line.times(97, 5)));
        // 60 bytes go at once, for the window; 500 bytes of others have room behind that.
        for (int k = 0; k < 5; k++) {
            Check.same("answer " + k, x.answer(1), 99);
        }
        Check.same("450 are there, 102 would be too many", x.answer(1), CallDesk.FULL);
        line.message(1, Line.join(Line.row(34, 46), Line.times(46, 5)));
        Check.same("51 would be one too many", x.answer(1), CallDesk.FULL);
        line.message(1, Line.join(Line.row(34, 45), Line.times(45, 5)));
        Check.same("50 have just room", x.answer(1), 47);
        Check.same("not even three bytes", x.answer(1), CallDesk.FULL);
        x.finish(1);
        Check.same("BAD before FULL", x.answer(1), CallDesk.BAD);
        line.message(2, 8, 1);
        Check.same("another stream has its own queue", x.answer(2), 2);
    }
}
