/** Promises 14 to 17: babble, told, link, streams. */
public final class TellTest {
    private static final int NONE = GatedLinks.NONE;
    private static final Class<IndexOutOfBoundsException> INDEX = IndexOutOfBoundsException.class;
    private static final Class<IllegalArgumentException> ARGUMENT = IllegalArgumentException.class;
    private static final Class<UnsupportedOperationException> FULL = UnsupportedOperationException.class;

    private static final Check CHECK = new Check("TellTest");

    public static void main(String[] args) {
        babbleEdges();
        babbleInOrder();
        babbleBetweenSpans();
        babbleNeverFits();
        babbleRoundTheCycle();
        babbleWhileTheOldIsInForce();
        babbleSpansOfASilentStream();
        toldEdges();
        toldOfEach();
        toldManyOnTheWay();
        linkEdges();
        linkWhatIsOnIt();
        linkFramesThatWaited();
        streamsEdges();
        CHECK.end();
    }

    private static void babbleEdges() {
        CHECK.promise("promise 14");
        GatedLinks x = new GatedLinks();
        for (int link : new int[] {-1, 6, Integer.MAX_VALUE, Integer.MIN_VALUE}) {
            CHECK.fails("link " + link, INDEX, () -> x.babble(link, 1));
            CHECK.fails("link " + link + ", size 0", INDEX, () -> x.babble(link, 0));
        }
        for (int size : new int[] {-1, 0, 9, Integer.MAX_VALUE, Integer.MIN_VALUE}) {
            CHECK.fails("size " + size, ARGUMENT, () -> x.babble(0, size));
        }
        CHECK.is("none waits", 0, x.link(0, 0));
        for (int i = 1; i <= 4; i++) {
            CHECK.is("so many wait", i, x.babble(0, i == 1 ? 8 : 1));
        }
        CHECK.fails("a fifth", FULL, () -> x.babble(0, 1));
        CHECK.fails("a fifth, size 9", ARGUMENT, () -> x.babble(0, 9));
        CHECK.fails("a fifth, no link", INDEX, () -> x.babble(6, 1));
        CHECK.is("four wait", 4, x.link(0, 0));
        CHECK.is("another link has its own", 1, x.babble(5, 1));
        x.tick(1);
        CHECK.is("one is on it, so four wait again", 4, x.babble(0, 1));
        x.cut(1, true);
        CHECK.is("on a cut link they wait too", 1, x.babble(1, 1));
        x.tick(3);
        CHECK.is("and stay", 1, x.link(1, 0));
    }

    private static void babbleInOrder() {
        GatedLinks x = new GatedLinks();
        int[] sizes = {3, 1, 8, 2};
        for (int size : sizes) {
            x.babble(2, size);
        }
        int[] ends = {3, 4, 12, 14};
        for (int t = 1; t <= 16; t++) {
            x.tick(1);
            int done = 0;
            for (int end : ends) {
                done += end <= t ? 1 : 0;
            }
            boolean atAnEnd = t == 3 || t == 4 || t == 12;
            CHECK.is("done at " + t, done, x.link(2, 1));
            CHECK.is("on it at " + t, atAnEnd || t >= 14 ? NONE : 5, x.link(2, 2));
            CHECK.is("waiting at " + t, t <= 3 ? 3 : t <= 4 ? 2 : t <= 12 ? 1 : 0, x.link(2, 0));
        }
    }

    /** With period 8 and size 2 the ticks 7, 0 and 1 of 8 are reserved: 2 .. 6 are free. */
    private static GatedLinks gated() {
        GatedLinks x = new GatedLinks();
        x.stream(8, 2, 60, 0, NONE, NONE);
        x.build(10);
        x.activate();
        return x;
    }

    private static void babbleBetweenSpans() {
        for (int size = 1; size <= 5; size++) {
            for (int at = 1; at <= 16; at++) {
                GatedLinks x = gated();
                x.tick(at);
                x.babble(0, size);
                int begin = at;
                while (begin % 8 < 2 || begin % 8 + size > 7) {
                    begin++;
                }
                x.tick(begin - at + 1);
                CHECK.is("size " + size + " from " + at + " begins at " + begin, 0, x.link(0, 0));
                CHECK.is("done", size == 1 ? 1 : 0, x.link(0, 1));
                if (size > 1) {
                    x.tick(size - 1);
                    CHECK.is("done behind its last tick", 1, x.link(0, 1));
                }
                GatedLinks y = gated();
                y.tick(at);
                y.babble(0, size);
                if (begin > at) {
                    y.tick(begin - at);
                    CHECK.is("size " + size + " from " + at + " waits till " + begin, 1, y.link(0, 0));
                }
            }
        }
    }

    private static void babbleNeverFits() {
        GatedLinks x = gated();
        x.babble(0, 6);
        x.babble(0, 1);
        x.babble(1, 6);
        x.tick(100);
        CHECK.is("6 ticks are never free, and the next waits behind it", 2, x.link(0, 0));
        CHECK.is("nothing is done", 0, x.link(0, 1));
        CHECK.is("another link has no spans", 1, x.link(1, 1));
    }

    /** A frame that begins on link 2 at 30 is there till 33: 29 .. 31 and 0 .. 1 are reserved from the start. */
    private static void babbleRoundTheCycle() {
        GatedLinks x = new GatedLinks();
        x.delay(0, 9);
        x.delay(1, 9);
        x.stream(32, 4, 60, 0, 1, 2);
        x.build(10);
        x.activate();
        x.babble(2, 1);
        x.tick(2);
        CHECK.is("0 and 1 are reserved though no frame comes then", 1, x.link(2, 0));
        x.tick(1);
        CHECK.is("2 is not", 0, x.link(2, 0));
        x.tick(22);
        x.babble(2, 5);
        x.tick(6);
        CHECK.is("from 25 on 29 is in the way", 1, x.link(2, 0));
        x.tick(3);
        CHECK.is("till 33", 1, x.link(2, 0));
        x.tick(1);
        CHECK.is("34 is free", 0, x.link(2, 0));
    }

    private static void babbleWhileTheOldIsInForce() {
        GatedLinks x = gated();
        x.tick(2);
        x.clear();
        x.build(0);
        x.activate();
        x.babble(0, 6);
        x.tick(30);
        CHECK.is("the old one's spans hold till 32", 1, x.link(0, 0));
        x.tick(1);
        CHECK.is("the new one has none", 0, x.link(0, 0));
        CHECK.is("it is on it", 5, x.link(0, 2));
    }

    private static void babbleSpansOfASilentStream() {
        GatedLinks x = gated();
        x.tick(3);
        x.talk(0, false, 0);
        x.tick(4);
        x.babble(0, 1);
        x.tick(3);
        CHECK.is("7, 8 and 9 are reserved all the same", 1, x.link(0, 0));
        x.tick(1);
        CHECK.is("10 is not", 0, x.link(0, 0));
        GatedLinks y = gated();
        y.build(10);
        y.babble(0, 1);
        CHECK.is("what is only awaited reserves nothing", 1, y.link(0, 0));
        GatedLinks z = new GatedLinks();
        z.tick(7);
        z.stream(8, 2, 60, 0, NONE, NONE);
        z.build(10);
        z.activate();
        z.babble(0, 2);
        z.tick(1);
        CHECK.is("at 7 nothing is in force", 5, z.link(0, 2));
    }

    private static void toldEdges() {
        CHECK.promise("promise 15");
        GatedLinks x = new GatedLinks();
        CHECK.fails("nothing in force", INDEX, () -> x.told(0, 0));
        x.stream(8, 1, 60, 0, NONE, NONE);
        x.stream(8, 1, 60, 1, NONE, NONE);
        x.build(10);
        x.activate();
        CHECK.fails("only awaited", INDEX, () -> x.told(0, 0));
        x.tick(1);
        x.stream(8, 1, 60, 2, NONE, NONE);
        x.build(10);
        for (int stream : new int[] {-1, 2, 5, Integer.MAX_VALUE, Integer.MIN_VALUE}) {
            CHECK.fails("stream " + stream, INDEX, () -> x.told(stream, 0));
        }
        for (int what : new int[] {-1, 6, Integer.MAX_VALUE, Integer.MIN_VALUE}) {
            CHECK.fails("what " + what, INDEX, () -> x.told(0, what));
        }
    }

    private static void toldOfEach() {
        GatedLinks x = new GatedLinks();
        x.delay(0, 2);
        x.delay(1, 1);
        x.stream(8, 1, 60, 0, NONE, NONE);
        x.stream(8, 4, 60, 1, NONE, NONE);
        x.build(10);
        x.activate();
        x.tick(1);
        CHECK.is("on their way", 1, x.told(0, 0));
        CHECK.is("on their way, 1", 1, x.told(1, 0));
        CHECK.is("no latency yet", NONE, x.told(0, 4));
        x.tick(3);
        CHECK.is("got", 1, x.told(0, 1));
        CHECK.is("not got", 0, x.told(1, 1));
        CHECK.is("latency", 3, x.told(0, 4));
        CHECK.is("no latency, 1", NONE, x.told(1, 4));
        x.cut(1, true);
        CHECK.is("lost", 1, x.told(1, 2));
        CHECK.is("not lost", 0, x.told(0, 2));
        x.talk(0, true, 7);
        x.tick(11);
        CHECK.is("dropped at 7, for time 0", 1, x.told(0, 3));
        CHECK.is("blocked", 1, x.told(0, 5));
        CHECK.is("not blocked", 0, x.told(1, 5));
        CHECK.is("lost as it began at 8", 2, x.told(1, 2));
        x.tick(1);
        CHECK.is("dropped at 15, for time 8", 2, x.told(0, 3));
        CHECK.is("got as before", 1, x.told(0, 1));
        CHECK.is("the latency stays", 3, x.told(0, 4));
        CHECK.is("none dropped", 0, x.told(1, 3));
    }

    /** With the longest latency, 43, and a period of 8 six are on their way at once. */
    private static void toldManyOnTheWay() {
        GatedLinks x = new GatedLinks();
        for (int link = 0; link < 3; link++) {
            x.delay(link, 9);
        }
        x.stream(8, 4, 60, 0, 1, 2);
        x.build(10);
        x.activate();
        for (int t = 0; t < 120; t++) {
            x.tick(1);
            int talked = t / 8 + 1;
            int got = t < 43 ? 0 : (t - 43) / 8 + 1;
            CHECK.is("on their way behind the tick at " + t, talked - got, x.told(0, 0));
            CHECK.is("got behind the tick at " + t, got, x.told(0, 1));
        }
        CHECK.is("latency", 12 + 27 + 4, x.told(0, 4));
    }

    private static void linkEdges() {
        CHECK.promise("promise 16");
        GatedLinks x = new GatedLinks();
        for (int link : new int[] {-1, 6, Integer.MAX_VALUE, Integer.MIN_VALUE}) {
            CHECK.fails("link " + link, INDEX, () -> x.link(link, 0));
        }
        for (int what : new int[] {-1, 4, 5, Integer.MAX_VALUE, Integer.MIN_VALUE}) {
            CHECK.fails("what " + what, INDEX, () -> x.link(0, what));
        }
        CHECK.is("the last link", NONE, x.link(5, 2));
    }

    /** Stream 1 takes link 1 first, stream 0 comes to it at 3 + 1 + 2. */
    private static void linkWhatIsOnIt() {
        GatedLinks x = new GatedLinks();
        x.delay(0, 1);
        x.stream(16, 3, 60, 0, 1, NONE);
        x.stream(16, 2, 60, 1, NONE, NONE);
        x.build(10);
        x.activate();
        CHECK.is("nothing yet", NONE, x.link(0, 2));
        for (int t = 1; t <= 48; t++) {
            x.tick(1);
            int of = t % 16;
            CHECK.is("link 0 at " + t, of == 1 || of == 2 ? 0 : NONE, x.link(0, 2));
            CHECK.is("link 1 at " + t, of == 7 || of == 8 ? 0 : of == 1 ? 1 : NONE, x.link(1, 2));
            CHECK.is("link 2 at " + t, NONE, x.link(2, 2));
        }
        x.tick(1);
        x.cut(0, true);
        CHECK.is("lost, so not on it", NONE, x.link(0, 2));
        x.tick(6);
        CHECK.is("nor on the next", NONE, x.link(1, 2));
    }

    private static void linkFramesThatWaited() {
        GatedLinks x = new GatedLinks();
        x.babble(0, 2);
        x.babble(0, 2);
        CHECK.is("two wait", 2, x.link(0, 0));
        CHECK.is("not yet on it", NONE, x.link(0, 2));
        x.tick(1);
        CHECK.is("one waits", 1, x.link(0, 0));
        CHECK.is("one is on it", 5, x.link(0, 2));
        CHECK.is("none is done", 0, x.link(0, 1));
        x.tick(1);
        CHECK.is("one is done", 1, x.link(0, 1));
        CHECK.is("none is on it", NONE, x.link(0, 2));
        CHECK.is("one waits still", 1, x.link(0, 0));
        x.tick(2);
        CHECK.is("two are done", 2, x.link(0, 1));
        x.cut(0, true);
        CHECK.is("cut", 1, x.link(0, 3));
        CHECK.is("done all the same", 2, x.link(0, 1));
    }

    private static void streamsEdges() {
        CHECK.promise("promise 17");
        GatedLinks x = new GatedLinks();
        for (int which : new int[] {-1, 4, Integer.MAX_VALUE, Integer.MIN_VALUE}) {
            CHECK.fails("streams(" + which + ")", INDEX, () -> x.streams(which));
        }
        int[] due = {0, NONE, NONE, NONE};
        streams(x, "new", due);
        x.build(0);
        streams(x, "found", 0, 0, NONE, NONE);
        x.activate();
        streams(x, "awaited", 0, 0, NONE, 0);
        x.tick(1);
        streams(x, "in force", 0, 0, 0, NONE);
        for (int i = 0; i < 5; i++) {
            x.stream(32, 1, 60, i, NONE, NONE);
        }
        streams(x, "five", 5, 0, 0, NONE);
        x.build(4);
        streams(x, "not found", 5, 0, 0, NONE);
        x.build(5);
        streams(x, "five found", 5, 5, 0, NONE);
        x.activate();
        streams(x, "five awaited", 5, 5, 0, 5);
        x.clear();
        streams(x, "cleared", 0, 5, 0, 5);
        x.tick(32);
        streams(x, "five in force", 0, 5, 5, NONE);
    }

    private static void streams(GatedLinks x, String when, int... due) {
        for (int which = 0; which < 4; which++) {
            CHECK.is(when + ": streams(" + which + ")", due[which], x.streams(which));
        }
    }
}
