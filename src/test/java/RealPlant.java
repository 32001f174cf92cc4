/** GatedLinks as a Plant. */
final class RealPlant implements Plant {
    private final GatedLinks x = new GatedLinks();

    @Override
    public void delay(int link, int ticks) {
        x.delay(link, ticks);
    }

    @Override
    public int stream(int period, int size, int deadline, int a, int b, int c) {
        return x.stream(period, size, deadline, a, b, c);
    }

    @Override
    public void clear() {
        x.clear();
    }

    @Override
    public int build(int tries) {
        return x.build(tries);
    }

    @Override
    public int tries() {
        return x.tries();
    }

    @Override
    public int offset(int stream) {
        return x.offset(stream);
    }

    @Override
    public int gate(int link, int t) {
        return x.gate(link, t);
    }

    @Override
    public void activate() {
        x.activate();
    }

    @Override
    public int tick(int n) {
        return x.tick(n);
    }

    @Override
    public void talk(int stream, boolean on, int late) {
        x.talk(stream, on, late);
    }

    @Override
    public boolean unblock(int stream) {
        return x.unblock(stream);
    }

    @Override
    public boolean cut(int link, boolean on) {
        return x.cut(link, on);
    }

    @Override
    public int babble(int link, int size) {
        return x.babble(link, size);
    }

    @Override
    public int told(int stream, int what) {
        return x.told(stream, what);
    }

    @Override
    public int link(int link, int what) {
        return x.link(link, what);
    }

    @Override
    public int streams(int which) {
        return x.streams(which);
    }
}
