/** Promises 1 to 4: a new object, delay, stream, clear. */
public final class SetupTest {
    private static final int NONE = GatedLinks.NONE;
    private static final Class<IndexOutOfBoundsException> INDEX = IndexOutOfBoundsException.class;
    private static final Class<IllegalArgumentException> ARGUMENT = IllegalArgumentException.class;
    private static final Class<UnsupportedOperationException> FULL = UnsupportedOperationException.class;
    private static final Class<java.util.NoSuchElementException> ELEMENT = java.util.NoSuchElementException.class;

    private static final Check CHECK = new Check("SetupTest");

    public static void main(String[] args) {
        newObject();
        delayEdges();
        delayOfALink();
        delayKeptByWhatIsFound();
        delayKeptOnTheWay();
        streamNumbers();
        streamNoLink();
        streamWrongPath();
        streamWrongValues();
        streamOrderOfExceptions();
        streamsThatFitAreTaken();
        clearTakesStreams();
        clearKeepsSchedules();
        CHECK.end();
    }

    private static void newObject() {
        CHECK.promise("promise 1");
        GatedLinks x = new GatedLinks();
        CHECK.is("streams(0)", 0, x.streams(0));
        CHECK.is("streams(1)", NONE, x.streams(1));
        CHECK.is("streams(2)", NONE, x.streams(2));
        CHECK.is("streams(3)", NONE, x.streams(3));
        CHECK.is("tries()", 0, x.tries());
        CHECK.fails("offset(0)", ELEMENT, () -> x.offset(0));
        CHECK.fails("gate(0, 0)", ELEMENT, () -> x.gate(0, 0));
        CHECK.fails("activate()", ELEMENT, x::activate);
        CHECK.fails("told(0, 0)", INDEX, () -> x.told(0, 0));
        for (int link = 0; link < 6; link++) {
            CHECK.is("frames that wait", 0, x.link(link, 0));
            CHECK.is("frames done", 0, x.link(link, 1));
            CHECK.is("what is on it", NONE, x.link(link, 2));
            CHECK.is("is it cut", 0, x.link(link, 3));
        }
        CHECK.is("the first tick", 1, x.tick(1));
        GatedLinks other = new GatedLinks();
        CHECK.is("another object has a time of its own", 2, other.tick(2));
    }

    private static void delayEdges() {
        CHECK.promise("promise 2");
        GatedLinks x = new GatedLinks();
        for (int link : new int[] {-1, 6, NONE, Integer.MAX_VALUE, Integer.MIN_VALUE}) {
            CHECK.fails("delay of link " + link, INDEX, () -> x.delay(link, 0));
            CHECK.fails("the link comes first, " + link, INDEX, () -> x.delay(link, 10));
        }
        for (int ticks : new int[] {-1, 10, Integer.MAX_VALUE, Integer.MIN_VALUE}) {
            CHECK.fails("a delay of " + ticks, ARGUMENT, () -> x.delay(0, ticks));
        }
        x.delay(0, 9);
        x.delay(5, 0);
        CHECK.fails("a wrong delay", ARGUMENT, () -> x.delay(0, 10));
        x.stream(8, 1, 10, 0, NONE, NONE);
        CHECK.is("1 + 9 ticks are in time", 1, x.build(10));
        x.clear();
        x.stream(8, 1, 9, 0, NONE, NONE);
        CHECK.is("the delay of 9 is kept", 0, x.build(10));
    }

    private static void delayOfALink() {
        for (int link = 0; link < 6; link++) {
            GatedLinks x = new GatedLinks();
            x.delay(link, 4);
            for (int on = 0; on < 6; on++) {
                x.clear();
                x.stream(8, 2, 5, on, NONE, NONE);
                CHECK.is("delay of link " + link + ", stream on " + on, on == link ? 0 : 1, x.build(10));
            }
        }
    }

    private static void delayKeptByWhatIsFound() {
        GatedLinks x = new GatedLinks();
        x.delay(0, 1);
        x.stream(16, 2, 20, 0, 1, NONE);
        x.build(10);
        CHECK.is("link 1 begins at 2 + 1 + 2", 0, x.gate(1, 5));
        x.delay(0, 4);
        CHECK.is("the old delay, its tick before", 0, x.gate(1, 4));
        CHECK.is("the old delay, its last tick", 0, x.gate(1, 6));
        CHECK.is("the old delay, behind it", NONE, x.gate(1, 7));
        x.build(10);
        CHECK.is("the new delay, before it", NONE, x.gate(1, 6));
        CHECK.is("the new delay, its tick before", 0, x.gate(1, 7));
        CHECK.is("the new delay, its last tick", 0, x.gate(1, 9));
    }

    private static void delayKeptOnTheWay() {
        GatedLinks x = new GatedLinks();
        x.delay(0, 3);
        x.stream(32, 1, 20, 0, 1, NONE);
        x.build(10);
        x.delay(0, 9);
        x.activate();
        x.tick(3);
        x.delay(0, 0);
        x.delay(1, 7);
        x.tick(4);
        CHECK.is("at 7 it is on its way", 1, x.told(0, 0));
        x.tick(1);
        CHECK.is("through at 1 + 3 + 2 + 1 = 7", 1, x.told(0, 1));
        CHECK.is("its latency", 7, x.told(0, 4));
    }

    private static void streamNumbers() {
        CHECK.promise("promise 3");
        GatedLinks x = new GatedLinks();
        CHECK.is("one link", 0, x.stream(8, 1, 1, 0, NONE, NONE));
        CHECK.is("two links", 1, x.stream(16, 4, 60, 5, 0, NONE));
        CHECK.is("three links", 2, x.stream(32, 2, 30, 3, 4, 5));
        CHECK.is("three links the other way", 3, x.stream(8, 3, 59, 5, 4, 3));
        CHECK.is("streams(0) of four", 4, x.streams(0));
        CHECK.is("the fifth", 4, x.stream(8, 1, 1, 1, NONE, NONE));
        CHECK.is("streams(0) of five", 5, x.streams(0));
        CHECK.fails("a sixth", FULL, () -> x.stream(8, 1, 1, 2, NONE, NONE));
        CHECK.is("streams(0) after it", 5, x.streams(0));
    }

    private static void streamNoLink() {
        GatedLinks x = new GatedLinks();
        for (int link : new int[] {-2, 6, Integer.MAX_VALUE, Integer.MIN_VALUE}) {
            CHECK.fails("a = " + link, INDEX, () -> x.stream(8, 1, 1, link, NONE, NONE));
            CHECK.fails("b = " + link, INDEX, () -> x.stream(8, 1, 1, 0, link, NONE));
            CHECK.fails("c = " + link, INDEX, () -> x.stream(8, 1, 1, 0, 1, link));
            CHECK.fails("b is NONE, c = " + link, INDEX, () -> x.stream(8, 1, 1, 0, NONE, link));
        }
        CHECK.fails("a is NONE", INDEX, () -> x.stream(8, 1, 1, NONE, NONE, NONE));
        CHECK.fails("a is NONE, b is not", INDEX, () -> x.stream(8, 1, 1, NONE, 0, 1));
        CHECK.is("none was added", 0, x.streams(0));
    }

    private static void streamWrongPath() {
        GatedLinks x = new GatedLinks();
        CHECK.fails("a and b the same", ARGUMENT, () -> x.stream(8, 1, 1, 2, 2, NONE));
        CHECK.fails("a and b the same, c another", ARGUMENT, () -> x.stream(8, 1, 1, 2, 2, 3));
        CHECK.fails("b and c the same", ARGUMENT, () -> x.stream(8, 1, 1, 1, 2, 2));
        CHECK.fails("a and c the same", ARGUMENT, () -> x.stream(8, 1, 1, 2, 1, 2));
        CHECK.fails("b is NONE, c is not", ARGUMENT, () -> x.stream(8, 1, 1, 2, NONE, 3));
        CHECK.fails("b is NONE, c is a", ARGUMENT, () -> x.stream(8, 1, 1, 2, NONE, 2));
        CHECK.is("none was added", 0, x.streams(0));
    }

    private static void streamWrongValues() {
        GatedLinks x = new GatedLinks();
        for (int period : new int[] {-8, 0, 1, 4, 7, 9, 15, 17, 24, 31, 33, 64, Integer.MIN_VALUE}) {
            CHECK.fails("period " + period, ARGUMENT, () -> x.stream(period, 1, 1, 0, NONE, NONE));
        }
        for (int size : new int[] {-1, 0, 5, Integer.MAX_VALUE, Integer.MIN_VALUE}) {
            CHECK.fails("size " + size, ARGUMENT, () -> x.stream(8, size, 1, 0, NONE, NONE));
        }
        for (int deadline : new int[] {-1, 0, 61, Integer.MAX_VALUE, Integer.MIN_VALUE}) {
            CHECK.fails("deadline " + deadline, ARGUMENT, () -> x.stream(8, 1, deadline, 0, NONE, NONE));
        }
        CHECK.is("none was added", 0, x.streams(0));
    }

    private static void streamOrderOfExceptions() {
        GatedLinks x = new GatedLinks();
        CHECK.fails("no link, and a wrong period", INDEX, () -> x.stream(7, 1, 1, 6, NONE, NONE));
        CHECK.fails("c is no link, a and b are the same", INDEX, () -> x.stream(8, 1, 1, 0, 0, 6));
        for (int i = 0; i < 5; i++) {
            x.stream(8, 1, 1, i, NONE, NONE);
        }
        CHECK.fails("no link, and five", INDEX, () -> x.stream(8, 1, 1, 6, NONE, NONE));
        CHECK.fails("a wrong size, and five", ARGUMENT, () -> x.stream(8, 5, 1, 0, NONE, NONE));
        CHECK.fails("a wrong path, and five", ARGUMENT, () -> x.stream(8, 1, 1, 0, 0, NONE));
        CHECK.fails("five", FULL, () -> x.stream(8, 1, 1, 0, NONE, NONE));
        CHECK.is("five are left", 5, x.streams(0));
    }

    private static void streamsThatFitAreTaken() {
        for (int period = 8; period <= 32; period *= 2) {
            for (int size = 1; size <= 4; size++) {
                GatedLinks x = new GatedLinks();
                x.stream(period, size, size, 4, NONE, NONE);
                CHECK.is("a deadline that is just met", 1, x.build(1));
                for (int t = 0; t < 32; t++) {
                    boolean there = t % period < size || t % period == period - 1;
                    CHECK.is("gate at " + t + " of " + period + "/" + size, there ? 0 : NONE, x.gate(4, t));
                }
            }
        }
    }

    private static void clearTakesStreams() {
        CHECK.promise("promise 4");
        GatedLinks x = new GatedLinks();
        x.clear();
        CHECK.is("streams(0) of none", 0, x.streams(0));
        for (int i = 0; i < 5; i++) {
            x.stream(8, 4, 60, 0, NONE, NONE);
        }
        x.clear();
        CHECK.is("streams(0)", 0, x.streams(0));
        CHECK.is("numbers go from 0 again", 0, x.stream(32, 1, 60, 3, NONE, NONE));
        CHECK.is("nothing of the old ones is left", 1, x.build(1));
        CHECK.is("gate of the new one", 0, x.gate(3, 0));
        CHECK.is("gate of an old one", NONE, x.gate(0, 0));
    }

    private static void clearKeepsSchedules() {
        GatedLinks x = new GatedLinks();
        x.stream(8, 1, 60, 0, NONE, NONE);
        x.stream(8, 1, 60, 0, NONE, NONE);
        x.build(100);
        x.activate();
        x.tick(1);
        x.activate();
        x.clear();
        CHECK.is("found", 2, x.streams(1));
        CHECK.is("in force", 2, x.streams(2));
        CHECK.is("awaited", 2, x.streams(3));
        CHECK.is("offset", 2, x.offset(1));
        CHECK.is("gate", 1, x.gate(0, 1));
        CHECK.is("tries", 4, x.tries());
        CHECK.is("on its way", 1, x.told(0, 0));
        x.tick(1);
        CHECK.is("got", 1, x.told(0, 1));
    }
}
