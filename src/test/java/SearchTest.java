/** Promises 5 to 8: build, tries, offset, gate. */
public final class SearchTest {
    private static final int NONE = GatedLinks.NONE;
    private static final Class<IndexOutOfBoundsException> INDEX = IndexOutOfBoundsException.class;
    private static final Class<IllegalArgumentException> ARGUMENT = IllegalArgumentException.class;
    private static final Class<java.util.NoSuchElementException> ELEMENT = java.util.NoSuchElementException.class;

    private static final Check CHECK = new Check("SearchTest");

    public static void main(String[] args) {
        buildNothing();
        buildOneByOne();
        buildGoesBack();
        buildFindsNone();
        buildEnds();
        buildDeadline();
        buildWithOtherPeriods();
        buildRoundTheCycle();
        buildKeepsTheOldOne();
        buildWrongTries();
        triesOfTheLatest();
        triesAtMost();
        offsetEdges();
        gateOfAStream();
        gateEdges();
        CHECK.end();
    }

    private static GatedLinks withStreams(int[]... streams) {
        GatedLinks x = new GatedLinks();
        for (int[] s : streams) {
            x.stream(s[0], s[1], s[2], s[3], s[4], s[5]);
        }
        return x;
    }

    private static int[] stream(int period, int size, int deadline, int a, int b, int c) {
        return new int[] {period, size, deadline, a, b, c};
    }

    private static void buildNothing() {
        CHECK.promise("promise 5");
        GatedLinks x = new GatedLinks();
        CHECK.is("no streams, no tries", 1, x.build(0));
        CHECK.is("no try was made", 0, x.tries());
        CHECK.is("found one of no streams", 0, x.streams(1));
        CHECK.is("nothing awaited", NONE, x.streams(3));
        CHECK.is("no streams, all tries", 1, x.build(20000));
        CHECK.is("still no try", 0, x.tries());
    }

    private static void buildOneByOne() {
        GatedLinks x = new GatedLinks();
        int[] tries = {1, 4, 9, 16};
        for (int i = 0; i < 4; i++) {
            x.stream(8, 1, 60, 0, NONE, NONE);
            CHECK.is("build of " + (i + 1), 1, x.build(100));
            CHECK.is("tries of " + (i + 1), tries[i], x.tries());
            CHECK.is("streams found of " + (i + 1), i + 1, x.streams(1));
            for (int of = 0; of <= i; of++) {
                CHECK.is("offset " + of, 2 * of, x.offset(of));
            }
        }
        GatedLinks apart = withStreams(stream(8, 4, 4, 0, NONE, NONE), stream(8, 4, 4, 1, NONE, NONE));
        CHECK.is("on other links they don't meet", 1, apart.build(2));
        CHECK.is("offset", 0, apart.offset(1));
    }

    /** Stream 2 needs link 0 while stream 0 is not there, so stream 1 must leave link 1 free then. */
    private static GatedLinks backAndForth() {
        return withStreams(stream(8, 3, 60, 0, NONE, NONE), stream(8, 4, 60, 1, NONE, NONE),
                stream(8, 2, 60, 0, 1, NONE));
    }

    private static void buildGoesBack() {
        GatedLinks x = backAndForth();
        CHECK.is("build", 1, x.build(20000));
        CHECK.is("tries: 1, three times 1 + 8, 1 + 5", 34, x.tries());
        CHECK.is("offset 0", 0, x.offset(0));
        CHECK.is("offset 1", 3, x.offset(1));
        CHECK.is("offset 2", 4, x.offset(2));
    }

    private static void buildFindsNone() {
        GatedLinks x = withStreams(stream(8, 4, 60, 0, NONE, NONE), stream(8, 3, 60, 0, NONE, NONE));
        CHECK.is("5 + 4 ticks of 8", 0, x.build(20000));
        CHECK.is("8 times 1 + 8", 72, x.tries());
        CHECK.is("nothing found", NONE, x.streams(1));
        GatedLinks y = withStreams(stream(8, 3, 60, 0, NONE, NONE), stream(8, 3, 60, 0, NONE, NONE));
        CHECK.is("4 + 4 ticks of 8", 1, y.build(20000));
        CHECK.is("1 + 5", 6, y.tries());
        CHECK.is("offset", 4, y.offset(1));
    }

    private static void buildEnds() {
        GatedLinks x = backAndForth();
        CHECK.is("one try too few", NONE, x.build(33));
        CHECK.is("as many as allowed", 33, x.tries());
        CHECK.is("nothing found", NONE, x.streams(1));
        CHECK.is("just enough", 1, x.build(34));
        CHECK.is("no tries", NONE, x.build(0));
        CHECK.is("none were made", 0, x.tries());
        GatedLinks y = withStreams(stream(8, 4, 60, 0, NONE, NONE), stream(8, 3, 60, 0, NONE, NONE));
        CHECK.is("one too few to know", NONE, y.build(71));
        CHECK.is("71 made", 71, y.tries());
        CHECK.is("just enough to know", 0, y.build(72));
        CHECK.is("72 made", 72, y.tries());
    }

    private static void buildDeadline() {
        GatedLinks x = new GatedLinks();
        x.delay(0, 3);
        x.delay(1, 5);
        x.stream(16, 2, 14, 0, 1, NONE);
        CHECK.is("2 + 3 + 2 + 2 + 5 ticks of 14", 1, x.build(1));
        x.clear();
        x.stream(16, 2, 13, 0, 1, NONE);
        CHECK.is("of 13", 0, x.build(20000));
        CHECK.is("every offset was tried", 16, x.tries());
        CHECK.is("the one of before is left", 1, x.streams(1));
        x.clear();
        x.stream(32, 1, 60, 3, NONE, NONE);
        x.stream(32, 1, 1, 0, NONE, NONE);
        CHECK.is("the second is too slow", 0, x.build(20000));
        CHECK.is("32 times 1 + 32", 1056, x.tries());
        x.clear();
        x.delay(2, 9);
        x.stream(8, 4, 33, 0, 1, 2);
        CHECK.is("12 + 17 + 4 ticks of 33", 1, x.build(1));
        x.clear();
        x.stream(8, 4, 32, 0, 1, 2);
        CHECK.is("of 32", 0, x.build(8));
    }

    private static void buildWithOtherPeriods() {
        GatedLinks x = withStreams(stream(32, 4, 60, 0, NONE, NONE), stream(8, 1, 60, 0, NONE, NONE),
                stream(16, 2, 60, 0, NONE, NONE));
        CHECK.is("build", 1, x.build(100));
        CHECK.is("offset of the one of 8: not on 31 .. 3", 5, x.offset(1));
        CHECK.is("offset of the one of 16: between 5 and 12", 7, x.offset(2));
        CHECK.is("1 + 6 + 8", 15, x.tries());
        GatedLinks y = withStreams(stream(16, 1, 60, 0, NONE, NONE), stream(32, 1, 60, 0, NONE, NONE),
                stream(8, 2, 60, 0, NONE, NONE));
        CHECK.is("build", 1, y.build(100));
        CHECK.is("the one of 32", 2, y.offset(1));
        CHECK.is("the one of 8", 4, y.offset(2));
        GatedLinks z = withStreams(stream(32, 4, 60, 0, NONE, NONE), stream(32, 4, 60, 0, NONE, NONE),
                stream(16, 4, 60, 0, NONE, NONE), stream(16, 4, 60, 0, NONE, NONE));
        CHECK.is("two of 32 must be nearly 16 apart", 1, z.build(20000));
        CHECK.is("offset 0 of them", 0, z.offset(0));
        CHECK.is("offset 1 of them", 15, z.offset(1));
        CHECK.is("offset 2 of them", 5, z.offset(2));
        CHECK.is("offset 3 of them", 10, z.offset(3));
    }

    /** The first begins on link 1 at 31 + 5, so its offsets there go round the cycle. */
    private static void buildRoundTheCycle() {
        GatedLinks x = new GatedLinks();
        x.delay(0, 9);
        x.delay(1, 9);
        x.stream(32, 4, 60, 0, 1, 2);
        x.stream(32, 4, 60, 2, NONE, NONE);
        CHECK.is("build", 1, x.build(100));
        CHECK.is("on link 2 from 30: 29 .. 1, so the other from 3", 3, x.offset(1));
        CHECK.is("gate at 29", 0, x.gate(2, 29));
        CHECK.is("gate at 1", 0, x.gate(2, 1));
        CHECK.is("gate at 2", 1, x.gate(2, 2));
        CHECK.is("gate at 28", NONE, x.gate(2, 28));
    }

    private static void buildKeepsTheOldOne() {
        GatedLinks x = withStreams(stream(8, 3, 60, 0, NONE, NONE));
        x.build(10);
        x.stream(8, 3, 60, 0, NONE, NONE);
        CHECK.is("a search that ends", NONE, x.build(5));
        CHECK.is("one stream is found", 1, x.streams(1));
        CHECK.is("its gate", NONE, x.gate(0, 4));
        CHECK.is("a search that finds", 1, x.build(6));
        CHECK.is("two streams are found", 2, x.streams(1));
        x.stream(8, 1, 60, 0, NONE, NONE);
        CHECK.is("a search that finds none", 0, x.build(20000));
        CHECK.is("two streams are found as before", 2, x.streams(1));
        CHECK.is("offset as before", 4, x.offset(1));
        CHECK.is("gate as before", 1, x.gate(0, 4));
        x.clear();
        CHECK.is("a search for none", 1, x.build(0));
        CHECK.is("no streams are found", 0, x.streams(1));
    }

    private static void buildWrongTries() {
        GatedLinks x = withStreams(stream(8, 1, 60, 0, NONE, NONE), stream(8, 1, 60, 0, NONE, NONE));
        x.build(3);
        for (int tries : new int[] {-1, 20001, Integer.MAX_VALUE, Integer.MIN_VALUE}) {
            CHECK.fails("build(" + tries + ")", ARGUMENT, () -> x.build(tries));
        }
        CHECK.is("nothing was found", NONE, x.streams(1));
        CHECK.is("the tries of the search before", 3, x.tries());
        CHECK.is("20000 are allowed", 1, x.build(20000));
    }

    private static void triesOfTheLatest() {
        CHECK.promise("promise 6");
        GatedLinks x = new GatedLinks();
        CHECK.is("before any", 0, x.tries());
        x.stream(8, 1, 60, 0, NONE, NONE);
        CHECK.is("before any, with a stream", 0, x.tries());
        x.stream(8, 1, 60, 0, NONE, NONE);
        x.build(20);
        CHECK.is("of one that found", 4, x.tries());
        x.build(2);
        CHECK.is("of one that ended", 2, x.tries());
        x.build(20);
        CHECK.is("not added up", 4, x.tries());
        x.clear();
        CHECK.is("kept by clear", 4, x.tries());
        x.build(20);
        CHECK.is("for no streams", 0, x.tries());
    }

    private static void triesAtMost() {
        GatedLinks x = withStreams(stream(32, 4, 60, 0, NONE, NONE), stream(32, 4, 60, 0, NONE, NONE),
                stream(32, 4, 60, 0, NONE, NONE), stream(8, 4, 60, 0, NONE, NONE), stream(8, 4, 60, 0, NONE, NONE));
        CHECK.is("it ends", NONE, x.build(20000));
        CHECK.is("after all of them", 20000, x.tries());
    }

    private static void offsetEdges() {
        CHECK.promise("promise 7");
        GatedLinks x = withStreams(stream(8, 1, 60, 0, NONE, NONE), stream(16, 1, 60, 0, NONE, NONE));
        CHECK.fails("nothing was found", ELEMENT, () -> x.offset(0));
        CHECK.fails("nothing was found, and no such stream", ELEMENT, () -> x.offset(-1));
        CHECK.fails("nothing was found, and none so high", ELEMENT, () -> x.offset(5));
        x.build(3);
        CHECK.fails("a search that ended", ELEMENT, () -> x.offset(0));
        x.build(20);
        CHECK.is("of stream 0", 0, x.offset(0));
        CHECK.is("of stream 1", 2, x.offset(1));
        x.stream(8, 1, 60, 5, NONE, NONE);
        for (int of : new int[] {-1, 2, 5, Integer.MAX_VALUE, Integer.MIN_VALUE}) {
            CHECK.fails("no stream " + of + " in it", INDEX, () -> x.offset(of));
        }
        x.build(20);
        CHECK.is("of stream 2", 0, x.offset(2));
        x.clear();
        x.build(0);
        CHECK.fails("found one of no streams", INDEX, () -> x.offset(0));
    }

    private static void gateOfAStream() {
        CHECK.promise("promise 8");
        GatedLinks x = new GatedLinks();
        x.delay(3, 4);
        x.stream(16, 3, 60, 3, 1, NONE);
        x.stream(32, 2, 60, 1, NONE, NONE);
        x.build(100);
        for (int t = 0; t < 32; t++) {
            boolean first = t % 16 == 15 || t % 16 < 3;
            boolean second = t % 16 >= 8 && t % 16 <= 11;
            boolean other = t == 31 || t == 0 || t == 1;
            CHECK.is("link 3 at " + t, first ? 0 : NONE, x.gate(3, t));
            CHECK.is("link 1 at " + t, second ? 0 : other ? 1 : NONE, x.gate(1, t));
            CHECK.is("link 0 at " + t, NONE, x.gate(0, t));
        }
    }

    private static void gateEdges() {
        GatedLinks x = new GatedLinks();
        CHECK.fails("nothing was found", ELEMENT, () -> x.gate(5, 31));
        CHECK.fails("no link, nothing found", INDEX, () -> x.gate(-1, 0));
        CHECK.fails("no tick, nothing found", ARGUMENT, () -> x.gate(0, 32));
        x.build(0);
        for (int link : new int[] {-1, 6, Integer.MAX_VALUE, Integer.MIN_VALUE}) {
            CHECK.fails("link " + link, INDEX, () -> x.gate(link, 0));
            CHECK.fails("link " + link + " and no tick", INDEX, () -> x.gate(link, -1));
        }
        for (int t : new int[] {-1, 32, Integer.MAX_VALUE, Integer.MIN_VALUE}) {
            CHECK.fails("tick " + t, ARGUMENT, () -> x.gate(0, t));
        }
        CHECK.is("nobody's", NONE, x.gate(0, 0));
        CHECK.is("nobody's at the last", NONE, x.gate(5, 31));
    }
}
