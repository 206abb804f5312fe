/** The calls of the document, which the desk and the model both have. */
interface Face {
    boolean field(int type, int number, int kind, boolean repeated);

    int feed(int bytes, int n);

    int grant(int s, int n);

    int answer(int s);

    boolean finish(int s);

    boolean cancel(int s, int code);

    int state(int s);

    int code(int s);

    int window(int s, boolean sending);

    int header(int s, int k);

    int table(int k);

    int messages(int s);

    int nodes(int s);

    int typeOf(int s, int node);

    int many(int s, int node, int number);

    int value(int s, int node, int number, int i);

    int byteOf(int s, int node, int number, int i, int k);

    int skipped(int s);

    int size(int s);

    int out(int k);

    int drain();
}
