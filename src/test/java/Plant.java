/** The calls of the document's face, so that GatedLinks and PlainModel get the same ones. */
interface Plant {
    void delay(int link, int ticks);

    int stream(int period, int size, int deadline, int a, int b, int c);

    void clear();

    int build(int tries);

    int tries();

    int offset(int stream);

    int gate(int link, int t);

    void activate();

    int tick(int n);

    void talk(int stream, boolean on, int late);

    boolean unblock(int stream);

    boolean cut(int link, boolean on);

    int babble(int link, int size);

    int told(int stream, int what);

    int link(int link, int what);

    int streams(int which);
}
