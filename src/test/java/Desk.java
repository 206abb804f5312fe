/** A CallDesk that counts its calls, since the document promises nothing of those behind the 512th. */
final class Desk implements Face {
    static final int CALLS = 512;

    private final CallDesk desk = new CallDesk();
    private int calls;

    int left() {
        return CALLS - calls;
    }

    private CallDesk called() {
        calls++;
        if (calls == CALLS + 1) {
            Check.told("a test uses an object for more than " + CALLS + " calls, " + tester());
        }
        return desk;
    }

    private static String tester() {
        for (StackTraceElement at : new Throwable().getStackTrace()) {
            if (at.getClassName().endsWith("Test")) {
                return at.toString();
            }
        }
        return "which one can't be told";
    }

    @Override
    public boolean field(int type, int number, int kind, boolean repeated) {
        return called().field(type, number, kind, repeated);
    }

    @Override
    public int feed(int bytes, int n) {
        return called().feed(bytes, n);
    }

    @Override
    public int grant(int s, int n) {
        return called().grant(s, n);
    }

    @Override
    public int answer(int s) {
        return called().answer(s);
    }

    @Override
    public boolean finish(int s) {
        return called().finish(s);
    }

    @Override
    public boolean cancel(int s, int code) {
        return called().cancel(s, code);
    }

    @Override
    public int state(int s) {
        return called().state(s);
    }

    @Override
    public int code(int s) {
        return called().code(s);
    }

    @Override
    public int window(int s, boolean sending) {
        return called().window(s, sending);
    }

    @Override
    public int header(int s, int k) {
        return called().header(s, k);
    }

    @Override
    public int table(int k) {
        return called().table(k);
    }

    @Override
    public int messages(int s) {
        return called().messages(s);
    }

    @Override
    public int nodes(int s) {
        return called().nodes(s);
    }

    @Override
    public int typeOf(int s, int node) {
        return called().typeOf(s, node);
    }

    @Override
    public int many(int s, int node, int number) {
        return called().many(s, node, number);
    }

    @Override
    public int value(int s, int node, int number, int i) {
        return called().value(s, node, number, i);
    }

    @Override
    public int byteOf(int s, int node, int number, int i, int k) {
        return called().byteOf(s, node, number, i, k);
    }

    @Override
    public int skipped(int s) {
        return called().skipped(s);
    }

    @Override
    public int size(int s) {
        return called().size(s);
    }

    @Override
    public int out(int k) {
        return called().out(k);
    }

    @Override
    public int drain() {
        return called().drain();
    }
}
