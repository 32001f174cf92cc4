/** Objects to start a test with. */
final class Sample {
    static final int NONE = GatedLinks.NONE;
    static final int[] NO_DELAYS = {};

    private Sample() {
    }

    /** What stream takes; the links behind those that are told are NONE. */
    static int[] flow(int period, int size, int deadline, int... path) {
        return new int[] {period, size, deadline, path[0], path.length > 1 ? path[1] : NONE,
            path.length > 2 ? path[2] : NONE};
    }

    static int add(GatedLinks x, int[] flow) {
        return x.stream(flow[0], flow[1], flow[2], flow[3], flow[4], flow[5]);
    }

    /** A new object with streams; link i has the delay delays[i], or 0 behind the last one told. */
    static GatedLinks with(int[] delays, int[]... flows) {
        GatedLinks x = new GatedLinks();
        for (int link = 0; link < delays.length; link++) {
            x.delay(link, delays[link]);
        }
        for (int[] flow : flows) {
            add(x, flow);
        }
        return x;
    }

    /** At time 0 their schedule is found and awaited. */
    static GatedLinks awaited(int[] delays, int[]... flows) {
        GatedLinks x = with(delays, flows);
        x.build(20000);
        x.activate();
        return x;
    }

    /** Stream 1 begins on link 0 five ticks after its offset, and only 4 of 8 is free there. */
    static GatedLinks lastOffsetOf8() {
        return awaited(NO_DELAYS, flow(8, 3, 60, 0), flow(8, 3, 60, 1, 0));
    }

    /** Stream 3 begins on link 0 twelve ticks after its offset, and only 11 of 16 is free there. */
    static GatedLinks lastOffsetOf16() {
        return awaited(new int[] {0, 6}, flow(16, 4, 60, 0), flow(16, 3, 60, 0), flow(16, 1, 60, 0),
            flow(16, 4, 60, 1, 0));
    }

    /** Stream 4 begins on link 0 twenty-eight ticks after its offset, and only 27 of 32 is free there. */
    static GatedLinks lastOffsetOf32() {
        return awaited(new int[] {0, 9, 7}, flow(16, 4, 60, 0), flow(16, 3, 60, 0), flow(16, 1, 60, 0),
            flow(32, 4, 60, 0), flow(32, 4, 60, 1, 2, 0));
    }
}
