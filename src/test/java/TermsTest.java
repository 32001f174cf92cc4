/** 'Terms' up to the search: each sentence that names a boundary has a test of its own. */
public final class TermsTest {
    private static final int NONE = GatedLinks.NONE;
    private static final Class<IndexOutOfBoundsException> INDEX = IndexOutOfBoundsException.class;
    private static final Class<UnsupportedOperationException> FULL = UnsupportedOperationException.class;

    private static final Check CHECK = new Check("TermsTest");

    public static void main(String[] args) {
        linksAreSix();
        noOtherLink();
        delaysAreNoneAtFirst();
        delaysGoToNine();
        streamsAreFive();
        offsetsEndBeforeThePeriod();
        lastOffsets();
        framesBeginAtOffsets();
        linksFollowOneAnother();
        framesAreThereForTheirSize();
        latencyHasTheLastDelay();
        longestLatency();
        spansHaveTheTickBefore();
        spansGoRoundTheCycle();
        spansMayTouch();
        spansFillAPeriod();
        spansMeetInLaterPeriods();
        latencyMayBeTheDeadline();
        searchTakesTheFirst();
        searchGoesBackOne();
        searchGoesBackTwo();
        searchCountsWhatIsTooSlow();
        searchLooksAtAllBefore();
        searchForNoStreams();
        searchEndsBeforeOneTooMany();
        CHECK.end();
    }

    private static GatedLinks with(int[] delays, int[]... flows) {
        return Sample.with(delays, flows);
    }

    private static int[] flow(int period, int size, int deadline, int... path) {
        return Sample.flow(period, size, deadline, path);
    }

    private static void linksAreSix() {
        CHECK.promise("there are links 0 .. 5");
        for (int link = 0; link < 6; link++) {
            GatedLinks x = new GatedLinks();
            x.delay(link, 1);
            int other = 5 - link;
            CHECK.is("a stream from " + link, 0, x.stream(32, 1, 60, link, other, NONE));
            x.build(1);
            CHECK.is("gate of " + link, 0, x.gate(link, 0));
            CHECK.is("behind its delay on " + other, 0, x.gate(other, 4));
            CHECK.is("babble on " + link, 1, x.babble(link, 1));
            CHECK.is("waits on " + link, 1, x.link(link, 0));
            CHECK.yes("cut of " + link, x.cut(link, true));
        }
    }

    private static void noOtherLink() {
        for (int no : new int[] {-1, 6}) {
            GatedLinks x = with(Sample.NO_DELAYS);
            x.build(0);
            CHECK.fails("delay of " + no, INDEX, () -> x.delay(no, 0));
            CHECK.fails("a is " + no, INDEX, () -> x.stream(8, 1, 1, no, NONE, NONE));
            CHECK.fails("gate of " + no, INDEX, () -> x.gate(no, 0));
            CHECK.fails("cut of " + no, INDEX, () -> x.cut(no, true));
            CHECK.fails("babble on " + no, INDEX, () -> x.babble(no, 1));
            CHECK.fails("link " + no, INDEX, () -> x.link(no, 0));
        }
        GatedLinks x = new GatedLinks();
        CHECK.fails("b is 6", INDEX, () -> x.stream(8, 1, 1, 5, 6, NONE));
        CHECK.fails("c is 6", INDEX, () -> x.stream(8, 1, 1, 5, 4, 6));
        CHECK.fails("b is -2, as -1 is NONE", INDEX, () -> x.stream(8, 1, 1, 5, -2, NONE));
        CHECK.fails("c is -2, as -1 is NONE", INDEX, () -> x.stream(8, 1, 1, 5, 4, -2));
    }

    private static void delaysAreNoneAtFirst() {
        CHECK.promise("each with a delay (at first 0)");
        for (int link = 0; link < 6; link++) {
            CHECK.is("1 tick of 1 on " + link, 1, with(Sample.NO_DELAYS, flow(8, 1, 1, link)).build(1));
            int next = (link + 1) % 6;
            CHECK.is("1 + 0 + 2 + 1 ticks of 4", 1, with(Sample.NO_DELAYS, flow(8, 1, 4, link, next)).build(1));
            CHECK.is("of 3", 0, with(Sample.NO_DELAYS, flow(8, 1, 3, link, next)).build(8));
        }
    }

    private static void delaysGoToNine() {
        CHECK.promise("a delay, 0 .. 9 ticks");
        for (int ticks = 0; ticks <= 9; ticks++) {
            int[] delays = {ticks};
            CHECK.is("a delay of " + ticks, 1, with(delays, flow(8, 1, 1 + ticks, 0)).build(1));
            if (ticks > 0) {
                CHECK.is("no more than " + ticks, 0, with(delays, flow(8, 1, ticks, 0)).build(8));
            }
        }
        GatedLinks x = with(new int[] {9}, flow(8, 1, 9, 0));
        CHECK.is("with 9", 0, x.build(8));
        x.delay(0, 0);
        CHECK.is("0 once more", 1, x.build(8));
    }

    private static void streamsAreFive() {
        CHECK.promise("streams are numbered 0, 1, ..");
        GatedLinks x = new GatedLinks();
        for (int i = 0; i < 5; i++) {
            CHECK.is("the number of stream " + i, i, Sample.add(x, flow(32, 1, 60, i)));
        }
        CHECK.fails("one more", FULL, () -> x.stream(32, 1, 60, 5, NONE, NONE));
        CHECK.is("all five are found", 1, x.build(5));
        x.activate();
        x.tick(1);
        CHECK.is("the last one talks", 1, x.told(4, 0));
        CHECK.is("the last one's span", 4, x.gate(4, 31));
        CHECK.is("none on the link of the one that was refused", NONE, x.gate(5, 0));
        CHECK.fails("there is no stream 5", INDEX, () -> x.told(5, 0));
    }

    /** A stream that is too slow is tried with each of its offsets. */
    private static void offsetsEndBeforeThePeriod() {
        CHECK.promise("an offset, 0 .. period - 1");
        for (int period : new int[] {8, 16, 32}) {
            GatedLinks x = with(Sample.NO_DELAYS, flow(period, 2, 1, 0));
            CHECK.is("all offsets of " + period, 0, x.build(period));
            CHECK.is("tries", period, x.tries());
            CHECK.is("all but one", NONE, x.build(period - 1));
            CHECK.is("all and many more", 0, x.build(20000));
            CHECK.is("no more tries", period, x.tries());
        }
    }

    private static void lastOffsets() {
        GatedLinks of8 = Sample.lastOffsetOf8();
        CHECK.is("7 of 8", 7, of8.offset(1));
        CHECK.is("tries of 8: 1 + 8", 9, of8.tries());
        GatedLinks of16 = Sample.lastOffsetOf16();
        CHECK.is("15 of 16", 15, of16.offset(3));
        CHECK.is("tries of 16: 1 + 6 + 10 + 16", 33, of16.tries());
        GatedLinks of32 = Sample.lastOffsetOf32();
        CHECK.is("31 of 32", 31, of32.offset(4));
        CHECK.is("tries of 32: 1 + 6 + 10 + 12 + 32", 61, of32.tries());
        CHECK.is("its gate at 30", 4, of32.gate(1, 30));
        CHECK.is("its gate at 2", 4, of32.gate(1, 2));
        CHECK.is("not at 29", NONE, of32.gate(1, 29));
        CHECK.is("not at 3", NONE, of32.gate(1, 3));
    }

    private static void framesBeginAtOffsets() {
        CHECK.promise("at times that are the offset and a multiple of the period");
        beginAt("7 of 8", Sample.lastOffsetOf8(), 1, 7, 8);
        beginAt("15 of 16", Sample.lastOffsetOf16(), 3, 15, 16);
        beginAt("31 of 32", Sample.lastOffsetOf32(), 4, 31, 32);
        beginAt("0 of 8", Sample.lastOffsetOf8(), 0, 0, 8);
        beginAt("11 of 32", Sample.lastOffsetOf32(), 3, 11, 32);
    }

    private static void beginAt(String what, GatedLinks x, int stream, int offset, int period) {
        int begun = 0;
        for (int t = 0; t < 100; t++) {
            x.tick(1);
            begun += t >= offset && (t - offset) % period == 0 ? 1 : 0;
            CHECK.is(what + " behind the tick at " + t, begun, x.told(stream, 0) + x.told(stream, 1));
        }
    }

    private static void linksFollowOneAnother() {
        CHECK.promise("size + the delay of the one before + 2 ticks after");
        for (int size = 1; size <= 4; size++) {
            for (int[] delays : new int[][] {{0, 0, 0}, {9, 0, 0}, {0, 9, 0}, {9, 9, 9}, {0, 0, 9}}) {
                GatedLinks x = with(delays, flow(32, size, 60, 0, 1, 2));
                x.build(1);
                int second = size + delays[0] + 2;
                int third = second + size + delays[1] + 2;
                gates("first", x, 0, 0, size);
                gates("second", x, 1, second, size);
                gates("third", x, 2, third, size);
            }
        }
    }

    /** The span of a stream of 32 that begins on a link at a tick, and nobody's beside it. */
    private static void gates(String what, GatedLinks x, int link, int begin, int size) {
        for (int t = 0; t < 32; t++) {
            int behind = Math.floorMod(t - (begin - 1), 32);
            CHECK.is(what + " of size " + size + " from " + begin + " at " + t, behind <= size ? 0 : NONE,
                x.gate(link, t));
        }
    }

    private static void framesAreThereForTheirSize() {
        CHECK.promise("on a link a frame is for size ticks");
        for (int size = 1; size <= 4; size++) {
            GatedLinks x = Sample.awaited(new int[] {3}, flow(32, size, 60, 0, 1));
            int second = size + 3 + 2;
            for (int t = 1; t <= 100; t++) {
                x.tick(1);
                int of = t % 32;
                CHECK.is("size " + size + " on link 0 at " + t, 0 < of && of < size ? 0 : NONE, x.link(0, 2));
                boolean there = second < of && of < second + size;
                CHECK.is("size " + size + " on link 1 at " + t, there ? 0 : NONE, x.link(1, 2));
            }
        }
    }

    private static void latencyHasTheLastDelay() {
        CHECK.promise("its latency (size, and the delay of that)");
        for (int last : new int[] {0, 1, 9}) {
            int latency = 2 + 4 + 2 + 2 + last;
            int[] delays = {4, last};
            CHECK.is("a deadline of " + latency, 1, with(delays, flow(16, 2, latency, 0, 1)).build(1));
            CHECK.is("one less", 0, with(delays, flow(16, 2, latency - 1, 0, 1)).build(16));
            GatedLinks x = Sample.awaited(delays, flow(16, 2, latency, 0, 1));
            x.tick(latency);
            CHECK.is("not got before", 0, x.told(0, 1));
            x.tick(1);
            CHECK.is("got", 1, x.told(0, 1));
            CHECK.is("its latency", latency, x.told(0, 4));
        }
    }

    private static void longestLatency() {
        int[] delays = {9, 9, 9};
        CHECK.is("13 + 2 + 13 + 2 + 13 of 43", 1, with(delays, flow(8, 4, 43, 2, 1, 0)).build(1));
        CHECK.is("of 42", 0, with(delays, flow(8, 4, 42, 2, 1, 0)).build(8));
        CHECK.is("of 60", 1, with(delays, flow(8, 4, 60, 2, 1, 0)).build(1));
        CHECK.is("the shortest: 1 of 1", 1, with(Sample.NO_DELAYS, flow(8, 1, 1, 0)).build(1));
    }

    private static void spansHaveTheTickBefore() {
        CHECK.promise("a span: the ticks on which it is there, and the one before these");
        for (int period : new int[] {8, 16, 32}) {
            for (int size = 1; size <= 4; size++) {
                GatedLinks x = with(Sample.NO_DELAYS, flow(period, size, 60, 3));
                x.build(1);
                CHECK.is("the tick before, round the cycle", 0, x.gate(3, 31));
                CHECK.is("the tick before, of the next", 0, x.gate(3, period - 1));
                CHECK.is("none before that", NONE, x.gate(3, period - 2));
                CHECK.is("the first", 0, x.gate(3, 0));
                CHECK.is("the last", 0, x.gate(3, size - 1));
                CHECK.is("none behind it", NONE, x.gate(3, size));
            }
        }
    }

    /** It begins on link 2 at 21 .. 30, so the last of its spans there go on at 0. */
    private static void spansGoRoundTheCycle() {
        CHECK.promise("times go from a period to the next without end");
        for (int delay = 0; delay <= 9; delay++) {
            GatedLinks x = with(new int[] {9, delay}, flow(32, 4, 60, 0, 1, 2));
            x.build(1);
            gates("the third link", x, 2, 21 + delay, 4);
        }
    }

    private static void spansMayTouch() {
        CHECK.promise("no two spans on one link have a tick in common");
        for (int one = 1; one <= 4; one++) {
            for (int other = 1; other <= 4; other++) {
                GatedLinks x = with(Sample.NO_DELAYS, flow(8, one, 60, 0), flow(8, other, 60, 0));
                boolean fits = one + 1 + other + 1 <= 8;
                CHECK.is("sizes " + one + " and " + other + " of 8", fits ? 1 : 0, x.build(20000));
                if (fits) {
                    CHECK.is("they touch", one + 1, x.offset(1));
                    CHECK.is("the last tick of the first", 0, x.gate(0, one - 1));
                    CHECK.is("the first tick of the other", 1, x.gate(0, one));
                }
                GatedLinks y = with(Sample.NO_DELAYS, flow(8, one, 60, 0), flow(8, other, 60, 1));
                CHECK.is("on two links they may", 1, y.build(2));
            }
        }
    }

    private static void spansFillAPeriod() {
        int[] small = flow(8, 1, 60, 0);
        GatedLinks x = with(Sample.NO_DELAYS, small, small, small, small);
        CHECK.is("four times two ticks of 8", 1, x.build(20000));
        for (int t = 0; t < 32; t++) {
            CHECK.is("full at " + t, (t + 1) % 8 / 2, x.gate(0, t));
        }
        Sample.add(x, small);
        CHECK.is("a fifth", 0, x.build(20000));
        GatedLinks y = with(Sample.NO_DELAYS, flow(8, 3, 60, 0), flow(8, 3, 60, 0));
        CHECK.is("twice four ticks of 8", 1, y.build(20000));
        Sample.add(y, flow(32, 1, 60, 0));
        CHECK.is("one of 32 finds no room in any period", 0, y.build(20000));
    }

    /** The one of 32 begins on link 1 but once in four periods of the other, which must keep off all the same. */
    private static void spansMeetInLaterPeriods() {
        for (int delay = 0; delay <= 9; delay++) {
            for (int far = 0; far <= 9; far += 9) {
                GatedLinks x = with(new int[] {delay, 0, far}, flow(32, 1, 60, 0, 2, 1), flow(8, 1, 60, 1));
                int begin = 3 + delay + 3 + far;
                int free = 0;
                while (near(free, begin)) {
                    free++;
                }
                CHECK.is("build", 1, x.build(100));
                CHECK.is("from " + begin, free, x.offset(1));
            }
        }
    }

    private static boolean near(int one, int other) {
        int apart = Math.floorMod(one - other, 8);
        return apart == 0 || apart == 1 || apart == 7;
    }

    private static void latencyMayBeTheDeadline() {
        CHECK.promise("each stream's latency is not above its deadline");
        for (int size = 1; size <= 4; size++) {
            CHECK.is("as long as it", 1, with(Sample.NO_DELAYS, flow(8, size, size, 0)).build(1));
            CHECK.is("one less long", 1, with(Sample.NO_DELAYS, flow(8, size, size + 1, 0)).build(1));
            if (size > 1) {
                CHECK.is("one longer", 0, with(Sample.NO_DELAYS, flow(8, size, size - 1, 0)).build(8));
            }
        }
        GatedLinks x = with(Sample.NO_DELAYS, flow(8, 1, 1, 0), flow(8, 2, 1, 1));
        CHECK.is("the second alone is too slow", 0, x.build(72));
        CHECK.is("8 times 1 + 8", 72, x.tries());
    }

    private static void searchTakesTheFirst() {
        CHECK.promise("streams are given offsets in order, each one from 0 on");
        GatedLinks x = with(Sample.NO_DELAYS, flow(32, 4, 60, 0), flow(32, 3, 60, 0), flow(32, 2, 60, 0),
            flow(32, 1, 60, 0), flow(32, 4, 60, 0));
        CHECK.is("build", 1, x.build(20000));
        int[] due = {0, 5, 9, 12, 14};
        int tries = 0;
        for (int i = 0; i < 5; i++) {
            CHECK.is("offset " + i, due[i], x.offset(i));
            tries += due[i] + 1;
        }
        CHECK.is("tries", tries, x.tries());
    }

    /** Stream 2 needs link 0 while stream 0 is not there, so stream 1 must leave link 1 free then. */
    private static void searchGoesBackOne() {
        CHECK.promise("the one before it goes on with its next one");
        GatedLinks x = with(Sample.NO_DELAYS, flow(8, 3, 60, 0), flow(8, 4, 60, 1), flow(8, 2, 60, 0, 1));
        CHECK.is("build", 1, x.build(34));
        CHECK.is("tries: 1, three times 1 + 8, 1 + 5", 34, x.tries());
        CHECK.is("not again from 0", 3, x.offset(1));
        CHECK.is("again from 0", 4, x.offset(2));
    }

    /** As before, but with a stream between that is in nobody's way: all its offsets are gone through each time. */
    private static void searchGoesBackTwo() {
        GatedLinks x = with(Sample.NO_DELAYS, flow(8, 3, 60, 0), flow(8, 4, 60, 1), flow(8, 1, 60, 5),
            flow(8, 2, 60, 0, 1));
        CHECK.is("build", 1, x.build(20000));
        CHECK.is("tries: 1, three times 1 + 8 * (1 + 8), 1 + 1 + 5", 227, x.tries());
        CHECK.is("offset 1", 3, x.offset(1));
        CHECK.is("offset 2, again from 0", 0, x.offset(2));
        CHECK.is("offset 3", 4, x.offset(3));
    }

    private static void searchCountsWhatIsTooSlow() {
        CHECK.promise("a try is to look (and its latency is not above its deadline)");
        GatedLinks x = with(Sample.NO_DELAYS, flow(8, 1, 60, 0), flow(16, 2, 1, 1));
        CHECK.is("none", 0, x.build(20000));
        CHECK.is("8 times 1 + 16", 136, x.tries());
        GatedLinks y = with(Sample.NO_DELAYS, flow(16, 2, 1, 1), flow(8, 1, 60, 0));
        CHECK.is("none", 0, y.build(20000));
        CHECK.is("16, and never the next stream", 16, y.tries());
    }

    /** One try each, however many streams it looks at, and it looks at each of them. */
    private static void searchLooksAtAllBefore() {
        CHECK.promise("meet those of the streams before it");
        for (int same = 0; same < 4; same++) {
            GatedLinks x = new GatedLinks();
            for (int i = 0; i < 4; i++) {
                Sample.add(x, flow(8, 4, 60, i));
            }
            Sample.add(x, flow(8, 1, 60, same));
            CHECK.is("build", 1, x.build(20000));
            CHECK.is("kept off by stream " + same, 5, x.offset(4));
            CHECK.is("tries: four, and 6", 10, x.tries());
        }
    }

    private static void searchForNoStreams() {
        CHECK.promise("a schedule for no streams is found with no try");
        GatedLinks x = new GatedLinks();
        CHECK.is("with none allowed", 1, x.build(0));
        CHECK.is("tries", 0, x.tries());
        CHECK.is("it is found", 0, x.streams(1));
        GatedLinks y = with(Sample.NO_DELAYS, flow(8, 1, 60, 0));
        y.build(1);
        y.clear();
        CHECK.is("behind clear", 1, y.build(0));
        CHECK.is("tries behind clear", 0, y.tries());
        CHECK.is("in the place of the one before", 0, y.streams(1));
    }

    private static void searchEndsBeforeOneTooMany() {
        CHECK.promise("a search ends, too, when another try would be more than it is allowed");
        GatedLinks x = with(Sample.NO_DELAYS, flow(8, 4, 60, 0), flow(8, 2, 60, 0));
        int[] due = {NONE, NONE, NONE, NONE, NONE, NONE, NONE, 1, 1};
        for (int allowed = 0; allowed < due.length; allowed++) {
            CHECK.is("found with 7 tries, build(" + allowed + ")", due[allowed], x.build(allowed));
            CHECK.is("tries", allowed < 7 ? allowed : 7, x.tries());
        }
        GatedLinks y = with(Sample.NO_DELAYS, flow(8, 4, 60, 0), flow(8, 3, 60, 0));
        for (int allowed = 0; allowed <= 74; allowed++) {
            CHECK.is("none is known with 72, build(" + allowed + ")", allowed < 72 ? NONE : 0, y.build(allowed));
            CHECK.is("tries", allowed < 72 ? allowed : 72, y.tries());
        }
    }
}
