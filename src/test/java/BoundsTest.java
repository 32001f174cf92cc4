import java.util.NoSuchElementException;

/**
 * Promises 1 to 17: for each that throws a call just outside of each bound and one just inside, two bounds broken at
 * once, and what is answered behind a refused call. (RefusedTest looks at all that is told behind each of them.)
 */
public final class BoundsTest {
    private static final int NONE = GatedLinks.NONE;
    private static final int[] NO_DELAYS = Sample.NO_DELAYS;
    private static final Class<IndexOutOfBoundsException> INDEX = IndexOutOfBoundsException.class;
    private static final Class<IllegalArgumentException> ARGUMENT = IllegalArgumentException.class;
    private static final Class<UnsupportedOperationException> FULL = UnsupportedOperationException.class;
    private static final Class<NoSuchElementException> ELEMENT = NoSuchElementException.class;

    private static final Check CHECK = new Check("BoundsTest");

    public static void main(String[] args) {
        newObject();
        delayBounds();
        delayTwoAtOnce();
        delayRefused();
        streamLinks();
        streamPath();
        streamPeriodSizeDeadline();
        streamFull();
        streamTwoAtOnce();
        streamRefused();
        clearEmptyAndFull();
        clearKeepsTheRest();
        buildBounds();
        buildRefused();
        buildKeepsTheOneBefore();
        triesBeforeAny();
        offsetBounds();
        offsetTwoAtOnce();
        offsetRefused();
        gateBounds();
        gateTwoAtOnce();
        gateRefused();
        activateWithoutOne();
        activateInThePlace();
        tickBounds();
        tickRefused();
        talkBounds();
        talkTwoAtOnce();
        talkRefused();
        unblockBounds();
        unblockRefused();
        cutBounds();
        cutRefused();
        babbleBounds();
        babbleFull();
        babbleTwoAtOnce();
        babbleRefused();
        toldBounds();
        toldTwoAtOnce();
        linkBounds();
        linkTwoAtOnce();
        streamsBounds();
        CHECK.end();
    }

    private static GatedLinks with(int[]... flows) {
        return Sample.with(NO_DELAYS, flows);
    }

    private static int[] flow(int period, int size, int... path) {
        return Sample.flow(period, size, 60, path);
    }

    /** Streams 0 and 1 of 8 on link 0 are in force at time 1. */
    private static GatedLinks twoInForce() {
        GatedLinks x = Sample.awaited(NO_DELAYS, flow(8, 1, 0), flow(8, 1, 0));
        x.tick(1);
        return x;
    }

    private static void newObject() {
        CHECK.promise("promise 1: no streams; nothing found, nothing in force");
        GatedLinks x = new GatedLinks();
        int[] due = {0, NONE, NONE, NONE};
        for (int which = 0; which < 4; which++) {
            CHECK.is("streams(" + which + ")", due[which], x.streams(which));
        }
        CHECK.fails("nothing found: offset", ELEMENT, () -> x.offset(0));
        CHECK.fails("nothing found: gate", ELEMENT, () -> x.gate(0, 0));
        CHECK.fails("nothing found: activate", ELEMENT, x::activate);
        CHECK.fails("nothing in force: talk", INDEX, () -> x.talk(0, true, 0));
        CHECK.fails("nothing in force: unblock", INDEX, () -> x.unblock(0));
        CHECK.fails("nothing in force: told", INDEX, () -> x.told(0, 0));
        CHECK.is("time goes on without any", 200, x.tick(200));
        CHECK.is("still nothing in force", NONE, x.streams(2));
    }

    private static void delayBounds() {
        CHECK.promise("promise 2: delay");
        GatedLinks x = new GatedLinks();
        CHECK.fails("link -1", INDEX, () -> x.delay(-1, 0));
        CHECK.fails("link 6", INDEX, () -> x.delay(6, 9));
        CHECK.fails("-1 ticks", ARGUMENT, () -> x.delay(0, -1));
        CHECK.fails("10 ticks", ARGUMENT, () -> x.delay(5, 10));
        for (int link : new int[] {0, 5}) {
            for (int ticks : new int[] {9, 0}) {
                x.delay(link, ticks);
                x.clear();
                x.stream(8, 1, 1 + ticks, link, NONE, NONE);
                CHECK.is("just met with " + ticks, 1, x.build(1));
                x.clear();
                x.stream(8, 2, 1 + ticks, link, NONE, NONE);
                CHECK.is("not met with " + ticks, 0, x.build(8));
            }
        }
    }

    private static void delayTwoAtOnce() {
        GatedLinks x = new GatedLinks();
        for (int link : new int[] {-1, 6}) {
            for (int ticks : new int[] {-1, 10}) {
                CHECK.fails("delay(" + link + ", " + ticks + ")", INDEX, () -> x.delay(link, ticks));
            }
        }
    }

    private static void delayRefused() {
        GatedLinks x = with(flow(16, 1, 0, 1));
        x.delay(0, 4);
        CHECK.fails("10", ARGUMENT, () -> x.delay(0, 10));
        CHECK.fails("-1", ARGUMENT, () -> x.delay(0, -1));
        x.build(1);
        CHECK.is("begins on link 1 at 1 + 4 + 2", 0, x.gate(1, 7));
        CHECK.is("not behind it", NONE, x.gate(1, 8));
        CHECK.is("not before its span", NONE, x.gate(1, 5));
    }

    private static void streamLinks() {
        CHECK.promise("promise 3: stream, no link");
        GatedLinks x = new GatedLinks();
        for (int no : new int[] {-2, 6}) {
            CHECK.fails("a = " + no, INDEX, () -> x.stream(8, 1, 1, no, NONE, NONE));
            CHECK.fails("b = " + no, INDEX, () -> x.stream(8, 1, 1, 0, no, NONE));
            CHECK.fails("b = " + no + ", c", INDEX, () -> x.stream(8, 1, 1, 0, no, 1));
            CHECK.fails("c = " + no, INDEX, () -> x.stream(8, 1, 1, 0, 1, no));
            CHECK.fails("c = " + no + ", no b", INDEX, () -> x.stream(8, 1, 1, 0, NONE, no));
        }
        CHECK.fails("a is NONE", INDEX, () -> x.stream(8, 1, 1, NONE, NONE, NONE));
        CHECK.fails("a is NONE, b is not", INDEX, () -> x.stream(8, 1, 1, NONE, 1, NONE));
        CHECK.fails("a is NONE, b and c are not", INDEX, () -> x.stream(8, 1, 1, NONE, 1, 2));
        CHECK.fails("a and b are NONE, c is not", INDEX, () -> x.stream(8, 1, 1, NONE, NONE, 2));
        CHECK.is("a = 0", 0, x.stream(8, 1, 1, 0, NONE, NONE));
        CHECK.is("a = 5", 1, x.stream(8, 1, 1, 5, NONE, NONE));
        CHECK.is("b = 0", 2, x.stream(8, 1, 1, 1, 0, NONE));
        CHECK.is("b = 5, c = 0", 3, x.stream(8, 1, 1, 1, 5, 0));
        CHECK.is("b = 0, c = 5", 4, x.stream(8, 1, 1, 1, 0, 5));
    }

    private static void streamPath() {
        CHECK.promise("promise 3: two are the same, b is NONE and c is not");
        GatedLinks x = new GatedLinks();
        for (int link = 0; link < 6; link++) {
            int same = link;
            int other = (link + 1) % 6;
            CHECK.fails("a is b", ARGUMENT, () -> x.stream(8, 1, 60, same, same, NONE));
            CHECK.fails("a is b, c", ARGUMENT, () -> x.stream(8, 1, 60, same, same, other));
            CHECK.fails("a is c", ARGUMENT, () -> x.stream(8, 1, 60, same, other, same));
            CHECK.fails("b is c", ARGUMENT, () -> x.stream(8, 1, 60, other, same, same));
            CHECK.fails("all are the same", ARGUMENT, () -> x.stream(8, 1, 60, same, same, same));
            CHECK.fails("c without b", ARGUMENT, () -> x.stream(8, 1, 60, same, NONE, other));
            CHECK.fails("c without b, and a", ARGUMENT, () -> x.stream(8, 1, 60, same, NONE, same));
        }
        CHECK.is("one link", 0, x.stream(8, 1, 60, 3, NONE, NONE));
        CHECK.is("two links", 1, x.stream(8, 1, 60, 4, 5, NONE));
        CHECK.is("three links", 2, x.stream(8, 1, 60, 0, 1, 2));
        x.build(3);
        CHECK.is("the third link of the third stream", 2, x.gate(2, 6));
        CHECK.is("the second link of the second stream", 1, x.gate(5, 3));
    }

    private static void streamPeriodSizeDeadline() {
        CHECK.promise("promise 3: period, size or deadline is not as said");
        GatedLinks x = new GatedLinks();
        for (int period : new int[] {7, 9, 15, 17, 31, 33, 0, -8, 24, 64, 4}) {
            CHECK.fails("period " + period, ARGUMENT, () -> x.stream(period, 1, 1, 0, NONE, NONE));
        }
        for (int size : new int[] {0, 5, -1}) {
            CHECK.fails("size " + size, ARGUMENT, () -> x.stream(8, size, 60, 0, NONE, NONE));
        }
        for (int deadline : new int[] {0, 61, -1}) {
            CHECK.fails("deadline " + deadline, ARGUMENT, () -> x.stream(8, 1, deadline, 0, NONE, NONE));
        }
        int number = 0;
        for (int[] inside : new int[][] {{8, 1, 1}, {16, 4, 60}, {32, 1, 60}, {8, 4, 4}, {32, 4, 1}}) {
            CHECK.is("period " + inside[0] + ", size " + inside[1] + ", deadline " + inside[2], number,
                x.stream(inside[0], inside[1], inside[2], number, NONE, NONE));
            number++;
        }
    }

    private static void streamFull() {
        CHECK.promise("promise 3: when there are five");
        GatedLinks x = new GatedLinks();
        for (int i = 0; i < 5; i++) {
            CHECK.is("stream " + i, i, Sample.add(x, flow(8, 1, i)));
        }
        for (int i = 0; i < 3; i++) {
            CHECK.fails("again", FULL, () -> x.stream(8, 1, 60, 5, NONE, NONE));
        }
        x.clear();
        CHECK.is("behind clear", 0, x.stream(8, 1, 60, 5, NONE, NONE));
        GatedLinks y = new GatedLinks();
        CHECK.is("another object has its own", 0, Sample.add(y, flow(8, 1, 0)));
    }

    private static void streamTwoAtOnce() {
        CHECK.promise("promise 3: the order of exceptions");
        GatedLinks x = new GatedLinks();
        streamNoLinkAndMore("with none", x);
        for (int i = 0; i < 5; i++) {
            Sample.add(x, flow(8, 1, i));
        }
        streamNoLinkAndMore("with five", x);
        CHECK.fails("five, no link", INDEX, () -> x.stream(8, 1, 60, 6, NONE, NONE));
        CHECK.fails("five, a is NONE", INDEX, () -> x.stream(8, 1, 60, NONE, NONE, NONE));
        CHECK.fails("five, two the same", ARGUMENT, () -> x.stream(8, 1, 60, 0, 0, NONE));
        CHECK.fails("five, b is NONE and c is not", ARGUMENT, () -> x.stream(8, 1, 60, 0, NONE, 1));
        CHECK.fails("five, period 7", ARGUMENT, () -> x.stream(7, 1, 60, 0, NONE, NONE));
        CHECK.fails("five, size 0", ARGUMENT, () -> x.stream(8, 0, 60, 0, NONE, NONE));
        CHECK.fails("five, deadline 61", ARGUMENT, () -> x.stream(8, 1, 61, 0, NONE, NONE));
        CHECK.fails("five alone", FULL, () -> x.stream(8, 1, 60, 0, 1, 2));
    }

    private static void streamNoLinkAndMore(String when, GatedLinks x) {
        for (int no : new int[] {-2, 6}) {
            CHECK.fails(when + ": no link, period 7", INDEX, () -> x.stream(7, 1, 60, no, NONE, NONE));
            CHECK.fails(when + ": no link, size 5", INDEX, () -> x.stream(8, 5, 60, 0, no, NONE));
            CHECK.fails(when + ": no link, deadline 0", INDEX, () -> x.stream(8, 1, 0, 0, 1, no));
            CHECK.fails(when + ": c no link, a is b", INDEX, () -> x.stream(8, 1, 60, 0, 0, no));
            CHECK.fails(when + ": a no link, b is c", INDEX, () -> x.stream(8, 1, 60, no, 1, 1));
            CHECK.fails(when + ": a no link, no b but c", INDEX, () -> x.stream(8, 1, 60, no, NONE, 1));
            CHECK.fails(when + ": two are the same no link", INDEX, () -> x.stream(8, 1, 60, no, no, NONE));
            CHECK.fails(when + ": c no link, b NONE", INDEX, () -> x.stream(8, 1, 60, 0, NONE, no));
        }
        CHECK.fails(when + ": a is NONE, size 0", INDEX, () -> x.stream(8, 0, 60, NONE, 0, 1));
        CHECK.fails(when + ": a is NONE, b is c", INDEX, () -> x.stream(8, 1, 60, NONE, 1, 1));
        CHECK.fails(when + ": a is b, period 7", ARGUMENT, () -> x.stream(7, 0, 0, 1, 1, NONE));
    }

    private static void streamRefused() {
        CHECK.promise("promise 3: behind a refused call");
        GatedLinks x = with(flow(8, 4, 0));
        CHECK.fails("no link", INDEX, () -> x.stream(8, 4, 60, 0, 6, NONE));
        CHECK.fails("two the same", ARGUMENT, () -> x.stream(8, 4, 60, 0, 0, NONE));
        CHECK.fails("size 5", ARGUMENT, () -> x.stream(8, 5, 60, 0, NONE, NONE));
        CHECK.is("one is there", 1, x.streams(0));
        CHECK.is("one is found", 1, x.build(1));
        CHECK.is("the next number", 1, x.stream(8, 2, 60, 0, NONE, NONE));
        CHECK.is("the refused ones take no room", 1, x.build(7));
    }

    private static void clearEmptyAndFull() {
        CHECK.promise("promise 4: all streams go");
        GatedLinks x = new GatedLinks();
        x.clear();
        x.clear();
        CHECK.is("none before, none behind", 0, x.streams(0));
        for (int round = 0; round < 3; round++) {
            for (int i = 0; i < 5; i++) {
                CHECK.is("round " + round, i, Sample.add(x, flow(8, 4, round)));
            }
            CHECK.is("five on one link are too many", 0, x.build(72));
            x.clear();
            CHECK.is("all gone", 0, x.streams(0));
            CHECK.is("found without them", 1, x.build(0));
        }
    }

    private static void clearKeepsTheRest() {
        CHECK.promise("promise 4: not from what is found, or in force");
        GatedLinks x = twoInForce();
        x.activate();
        x.babble(3, 2);
        x.cut(4, true);
        x.clear();
        int[] due = {0, 2, 2, 2};
        for (int which = 0; which < 4; which++) {
            CHECK.is("streams(" + which + ")", due[which], x.streams(which));
        }
        CHECK.is("offset", 2, x.offset(1));
        CHECK.is("gate", 1, x.gate(0, 1));
        CHECK.is("on its way", 1, x.told(0, 0));
        CHECK.is("waits", 1, x.link(3, 0));
        CHECK.is("cut", 1, x.link(4, 3));
        CHECK.is("tries", 4, x.tries());
        CHECK.is("time goes on", 3, x.tick(2));
        CHECK.is("got", 1, x.told(0, 1));
        x.tick(30);
        CHECK.is("the awaited one is in force at 32", 2, x.streams(2));
        CHECK.is("and anew", 0, x.told(0, 1));
        CHECK.is("none is awaited", NONE, x.streams(3));
    }

    private static void buildBounds() {
        CHECK.promise("promise 5: tries is not 0 .. 20000");
        GatedLinks x = with(flow(8, 1, 0));
        CHECK.fails("-1", ARGUMENT, () -> x.build(-1));
        CHECK.fails("20001", ARGUMENT, () -> x.build(20001));
        CHECK.is("0", NONE, x.build(0));
        CHECK.is("1", 1, x.build(1));
        CHECK.is("20000", 1, x.build(20000));
        GatedLinks y = with(flow(32, 4, 0), flow(32, 4, 0), flow(32, 4, 0), flow(8, 4, 0), flow(8, 4, 0));
        CHECK.is("ends with 20000", NONE, y.build(20000));
        CHECK.is("all 20000 were made", 20000, y.tries());
        CHECK.is("ends with 19999", NONE, y.build(19999));
        CHECK.is("all 19999 were made", 19999, y.tries());
    }

    private static void buildRefused() {
        CHECK.promise("promise 5: behind a refused call");
        GatedLinks x = with(flow(8, 1, 0));
        CHECK.fails("too few, nothing found", ARGUMENT, () -> x.build(-1));
        CHECK.is("nothing found", NONE, x.streams(1));
        CHECK.is("no tries", 0, x.tries());
        x.build(1);
        Sample.add(x, flow(8, 1, 0));
        CHECK.fails("too many", ARGUMENT, () -> x.build(20001));
        CHECK.is("one is found", 1, x.streams(1));
        CHECK.is("the tries of before", 1, x.tries());
        CHECK.is("no gate of the second", NONE, x.gate(0, 1));
    }

    private static void buildKeepsTheOneBefore() {
        CHECK.promise("promise 5: only a schedule that is found takes the place of the one found before");
        GatedLinks x = with(flow(8, 3, 0));
        x.delay(0, 5);
        x.build(1);
        x.delay(0, 0);
        Sample.add(x, flow(8, 4, 0));
        CHECK.is("none", 0, x.build(20000));
        CHECK.is("the one before", 1, x.streams(1));
        CHECK.fails("no second stream in it", INDEX, () -> x.offset(1));
        CHECK.is("ended", NONE, x.build(1));
        CHECK.is("the one before", 1, x.streams(1));
        CHECK.is("its gate", 0, x.gate(0, 2));
        x.activate();
        x.tick(8);
        CHECK.is("with the delay of then", NONE, x.told(0, 4));
        x.tick(1);
        CHECK.is("3 + 5", 8, x.told(0, 4));
        x.clear();
        CHECK.is("found", 1, x.build(0));
        CHECK.is("in its place", 0, x.streams(1));
        CHECK.fails("no first stream in it", INDEX, () -> x.offset(0));
        CHECK.is("nobody's", NONE, x.gate(0, 2));
    }

    private static void triesBeforeAny() {
        CHECK.promise("promise 6: tries (0 before any)");
        GatedLinks x = with(flow(8, 1, 0), flow(8, 1, 0));
        CHECK.is("before any", 0, x.tries());
        int[][] latest = {{0, 0}, {4, 4}, {3, 3}, {20000, 4}, {1, 1}, {0, 0}};
        for (int[] one : latest) {
            x.build(one[0]);
            CHECK.is("behind build(" + one[0] + ")", one[1], x.tries());
            CHECK.is("asked again", one[1], x.tries());
        }
    }

    private static void offsetBounds() {
        CHECK.promise("promise 7: offset");
        GatedLinks x = with(flow(8, 1, 0), flow(8, 1, 0));
        CHECK.fails("none was found", ELEMENT, () -> x.offset(0));
        x.build(3);
        CHECK.fails("the search ended", ELEMENT, () -> x.offset(0));
        x.build(4);
        CHECK.fails("-1", INDEX, () -> x.offset(-1));
        CHECK.is("0", 0, x.offset(0));
        CHECK.is("1", 2, x.offset(1));
        CHECK.fails("2", INDEX, () -> x.offset(2));
        Sample.add(x, flow(8, 1, 0));
        CHECK.fails("2 was added, but is not found", INDEX, () -> x.offset(2));
        x.build(9);
        CHECK.is("2 is found", 4, x.offset(2));
        CHECK.fails("3", INDEX, () -> x.offset(3));
        x.clear();
        CHECK.is("2 is found, though it is gone", 4, x.offset(2));
        x.build(0);
        CHECK.fails("0 of none", INDEX, () -> x.offset(0));
        for (int i = 0; i < 5; i++) {
            Sample.add(x, flow(32, 4, 1));
        }
        x.build(20000);
        CHECK.is("4 of five", 20, x.offset(4));
        CHECK.fails("5 of five", INDEX, () -> x.offset(5));
    }

    private static void offsetTwoAtOnce() {
        GatedLinks x = new GatedLinks();
        for (int no : new int[] {-1, 0, 5, 6, Integer.MIN_VALUE, Integer.MAX_VALUE}) {
            CHECK.fails("none was found, stream " + no, ELEMENT, () -> x.offset(no));
        }
    }

    private static void offsetRefused() {
        GatedLinks x = with(flow(8, 1, 0));
        CHECK.fails("none was found", ELEMENT, () -> x.offset(0));
        x.build(1);
        CHECK.fails("1", INDEX, () -> x.offset(1));
        CHECK.is("0 behind it", 0, x.offset(0));
    }

    private static void gateBounds() {
        CHECK.promise("promise 8: gate");
        GatedLinks x = with(flow(32, 1, 0), flow(32, 1, 5));
        CHECK.fails("none was found", ELEMENT, () -> x.gate(0, 0));
        x.build(2);
        CHECK.fails("link -1", INDEX, () -> x.gate(-1, 0));
        CHECK.fails("link 6", INDEX, () -> x.gate(6, 31));
        CHECK.fails("tick -1", ARGUMENT, () -> x.gate(0, -1));
        CHECK.fails("tick 32", ARGUMENT, () -> x.gate(5, 32));
        CHECK.is("link 0 at 0", 0, x.gate(0, 0));
        CHECK.is("link 0 at 31", 0, x.gate(0, 31));
        CHECK.is("link 5 at 0", 1, x.gate(5, 0));
        CHECK.is("link 5 at 31", 1, x.gate(5, 31));
        CHECK.is("nobody's at 1", NONE, x.gate(0, 1));
        CHECK.is("nobody's at 30", NONE, x.gate(0, 30));
        CHECK.is("nobody's on link 4", NONE, x.gate(4, 0));
    }

    private static void gateTwoAtOnce() {
        GatedLinks x = new GatedLinks();
        for (int round = 0; round < 2; round++) {
            for (int link : new int[] {-1, 6}) {
                CHECK.fails("no link", INDEX, () -> x.gate(link, 0));
                CHECK.fails("no link, tick -1", INDEX, () -> x.gate(link, -1));
                CHECK.fails("no link, tick 32", INDEX, () -> x.gate(link, 32));
            }
            CHECK.fails("tick -1", ARGUMENT, () -> x.gate(0, -1));
            CHECK.fails("tick 32", ARGUMENT, () -> x.gate(5, 32));
            x.build(0);
        }
    }

    private static void gateRefused() {
        GatedLinks x = with(flow(8, 1, 0));
        CHECK.fails("none was found", ELEMENT, () -> x.gate(0, 0));
        x.build(1);
        CHECK.fails("tick 32", ARGUMENT, () -> x.gate(0, 32));
        CHECK.is("behind it", 0, x.gate(0, 31));
    }

    private static void activateWithoutOne() {
        CHECK.promise("promise 9: activate");
        GatedLinks x = with(flow(8, 4, 0), flow(8, 3, 0));
        CHECK.fails("none was built", ELEMENT, x::activate);
        x.build(20);
        CHECK.fails("the search ended", ELEMENT, x::activate);
        x.build(72);
        CHECK.fails("there is none", ELEMENT, x::activate);
        CHECK.is("nothing is awaited", NONE, x.streams(3));
        x.tick(1);
        CHECK.is("nothing comes into force", NONE, x.streams(2));
        x.clear();
        x.build(0);
        x.activate();
        CHECK.is("one of no streams is awaited", 0, x.streams(3));
        x.clear();
        Sample.add(x, flow(8, 4, 0));
        x.build(1);
        CHECK.is("what is found later is not", 0, x.streams(3));
    }

    private static void activateInThePlace() {
        CHECK.promise("promise 9: in the place of any that was");
        GatedLinks x = with(flow(32, 1, 0));
        x.build(1);
        x.tick(1);
        x.activate();
        Sample.add(x, flow(32, 1, 1));
        x.build(2);
        x.activate();
        CHECK.is("the second", 2, x.streams(3));
        x.clear();
        x.build(0);
        x.activate();
        CHECK.is("the third", 0, x.streams(3));
        x.activate();
        CHECK.is("the third once more", 0, x.streams(3));
        x.tick(32);
        CHECK.is("in force", 0, x.streams(2));
        x.tick(64);
        CHECK.is("none of the others ever", 0, x.streams(2));
        CHECK.is("none is awaited", NONE, x.streams(3));
    }

    private static void tickBounds() {
        CHECK.promise("promise 10: tick");
        GatedLinks x = new GatedLinks();
        CHECK.fails("0", ARGUMENT, () -> x.tick(0));
        CHECK.fails("-1", ARGUMENT, () -> x.tick(-1));
        CHECK.fails("201", ARGUMENT, () -> x.tick(201));
        CHECK.is("1", 1, x.tick(1));
        CHECK.is("2", 3, x.tick(2));
        CHECK.is("199", 202, x.tick(199));
        CHECK.is("200", 402, x.tick(200));
        GatedLinks many = Sample.awaited(NO_DELAYS, flow(8, 1, 0));
        GatedLinks one = Sample.awaited(NO_DELAYS, flow(8, 1, 0));
        many.tick(200);
        for (int i = 0; i < 200; i++) {
            one.tick(1);
        }
        CHECK.is("200 at once and one by one: got", one.told(0, 1), many.told(0, 1));
        CHECK.is("at 0, 8, .. 192", 25, many.told(0, 1));
    }

    private static void tickRefused() {
        GatedLinks x = twoInForce();
        CHECK.fails("0", ARGUMENT, () -> x.tick(0));
        CHECK.fails("201", ARGUMENT, () -> x.tick(201));
        CHECK.is("still on its way", 1, x.told(0, 0));
        CHECK.is("no time went by", 2, x.tick(1));
        CHECK.is("got", 1, x.told(0, 1));
    }

    private static void talkBounds() {
        CHECK.promise("promise 11: talk");
        GatedLinks x = Sample.with(NO_DELAYS, flow(8, 1, 0), flow(8, 1, 1));
        CHECK.fails("none is in force", INDEX, () -> x.talk(0, true, 0));
        x.build(2);
        CHECK.fails("found only", INDEX, () -> x.talk(0, true, 0));
        x.activate();
        CHECK.fails("awaited only", INDEX, () -> x.talk(0, true, 0));
        x.tick(1);
        CHECK.fails("stream -1", INDEX, () -> x.talk(-1, true, 0));
        CHECK.fails("stream 2", INDEX, () -> x.talk(2, true, 0));
        CHECK.fails("late by -1", ARGUMENT, () -> x.talk(0, true, -1));
        CHECK.fails("late by 8", ARGUMENT, () -> x.talk(1, false, 8));
        x.talk(0, true, 7);
        x.talk(1, false, 0);
        x.tick(7);
        CHECK.is("stream 0, late by 7, at 7", 1, x.told(0, 3));
        x.tick(1);
        CHECK.is("stream 1, off, at 8", 1, x.told(1, 0) + x.told(1, 1));
        x.talk(1, true, 0);
        x.tick(8);
        CHECK.is("stream 1, on, at 16", 2, x.told(1, 0) + x.told(1, 1));
    }

    private static void talkTwoAtOnce() {
        GatedLinks x = new GatedLinks();
        CHECK.fails("none in force, late by -1", INDEX, () -> x.talk(0, true, -1));
        CHECK.fails("none in force, late by 8", INDEX, () -> x.talk(0, true, 8));
        GatedLinks y = twoInForce();
        for (int stream : new int[] {-1, 2}) {
            for (int late : new int[] {-1, 8}) {
                CHECK.fails("talk(" + stream + ", .., " + late + ")", INDEX, () -> y.talk(stream, true, late));
            }
        }
    }

    private static void talkRefused() {
        GatedLinks x = twoInForce();
        CHECK.fails("off, late by 8", ARGUMENT, () -> x.talk(0, false, 8));
        CHECK.fails("off, late by -1", ARGUMENT, () -> x.talk(0, false, -1));
        CHECK.fails("off, stream 2", INDEX, () -> x.talk(2, false, 0));
        x.tick(9);
        CHECK.is("still on and in time", 2, x.told(0, 1));
        CHECK.is("nothing dropped", 0, x.told(0, 3));
        x.talk(0, false, 5);
        CHECK.fails("on, late by 8", ARGUMENT, () -> x.talk(0, true, 8));
        x.tick(16);
        CHECK.is("still off", 0, x.told(0, 3));
    }

    private static void unblockBounds() {
        CHECK.promise("promise 12: unblock");
        GatedLinks x = Sample.with(NO_DELAYS, flow(8, 1, 0), flow(8, 1, 1));
        CHECK.fails("none is in force", INDEX, () -> x.unblock(0));
        x.build(2);
        CHECK.fails("found only", INDEX, () -> x.unblock(0));
        x.activate();
        CHECK.fails("awaited only", INDEX, () -> x.unblock(0));
        x.tick(1);
        CHECK.fails("stream -1", INDEX, () -> x.unblock(-1));
        CHECK.fails("stream 2", INDEX, () -> x.unblock(2));
        for (int stream = 0; stream < 2; stream++) {
            CHECK.no("never blocked", x.unblock(stream));
            x.talk(stream, true, 1);
        }
        x.tick(1);
        for (int stream = 0; stream < 2; stream++) {
            CHECK.is("blocked at 1", 1, x.told(stream, 5));
            CHECK.yes("it was", x.unblock(stream));
            CHECK.is("not any more", 0, x.told(stream, 5));
            CHECK.no("it was not", x.unblock(stream));
        }
    }

    private static void unblockRefused() {
        GatedLinks x = twoInForce();
        x.talk(0, true, 1);
        x.tick(1);
        CHECK.fails("stream 2", INDEX, () -> x.unblock(2));
        CHECK.fails("stream -1", INDEX, () -> x.unblock(-1));
        CHECK.is("still blocked", 1, x.told(0, 5));
        CHECK.yes("it was", x.unblock(0));
    }

    private static void cutBounds() {
        CHECK.promise("promise 13: cut");
        GatedLinks x = new GatedLinks();
        for (boolean on : new boolean[] {true, false}) {
            CHECK.fails("link -1", INDEX, () -> x.cut(-1, on));
            CHECK.fails("link 6", INDEX, () -> x.cut(6, on));
        }
        for (int link : new int[] {0, 5}) {
            CHECK.no("not cut, as it was", x.cut(link, false));
            CHECK.yes("cut", x.cut(link, true));
            CHECK.no("cut, as it was", x.cut(link, true));
            CHECK.is("cut", 1, x.link(link, 3));
            CHECK.yes("not any more", x.cut(link, false));
            CHECK.no("not cut, as it was", x.cut(link, false));
            CHECK.is("not cut", 0, x.link(link, 3));
        }
    }

    private static void cutRefused() {
        GatedLinks x = twoInForce();
        CHECK.fails("link 6", INDEX, () -> x.cut(6, true));
        CHECK.fails("link -1", INDEX, () -> x.cut(-1, true));
        for (int link = 0; link < 6; link++) {
            CHECK.is("none is cut", 0, x.link(link, 3));
        }
        x.tick(8);
        CHECK.is("nothing is lost", 0, x.told(0, 2));
    }

    private static void babbleBounds() {
        CHECK.promise("promise 14: babble");
        GatedLinks x = new GatedLinks();
        CHECK.fails("link -1", INDEX, () -> x.babble(-1, 1));
        CHECK.fails("link 6", INDEX, () -> x.babble(6, 8));
        CHECK.fails("size 0", ARGUMENT, () -> x.babble(0, 0));
        CHECK.fails("size -1", ARGUMENT, () -> x.babble(0, -1));
        CHECK.fails("size 9", ARGUMENT, () -> x.babble(5, 9));
        CHECK.is("size 1 on link 0", 1, x.babble(0, 1));
        CHECK.is("size 8 on link 5", 1, x.babble(5, 8));
        x.tick(1);
        CHECK.is("of 1 it is done", 1, x.link(0, 1));
        x.tick(6);
        CHECK.is("of 8 it is not", 0, x.link(5, 1));
        x.tick(1);
        CHECK.is("of 8 it is done", 1, x.link(5, 1));
    }

    private static void babbleFull() {
        CHECK.promise("promise 14: when four wait");
        for (int link = 0; link < 6; link++) {
            GatedLinks x = new GatedLinks();
            int full = link;
            for (int i = 1; i <= 4; i++) {
                CHECK.is("so many wait", i, x.babble(link, 2));
            }
            CHECK.fails("a fifth", FULL, () -> x.babble(full, 1));
            CHECK.is("on another", 1, x.babble((link + 1) % 6, 1));
            x.tick(1);
            CHECK.is("one has begun and does not wait", 4, x.babble(link, 2));
            CHECK.fails("four wait, one is on it", FULL, () -> x.babble(full, 8));
            x.tick(1);
            CHECK.fails("one is done, four wait", FULL, () -> x.babble(full, 8));
            x.tick(1);
            CHECK.is("the next has begun", 4, x.babble(link, 2));
        }
    }

    private static void babbleTwoAtOnce() {
        CHECK.promise("promise 14: the order of exceptions");
        GatedLinks x = new GatedLinks();
        for (int round = 0; round < 2; round++) {
            for (int link : new int[] {-1, 6}) {
                for (int size : new int[] {0, 9}) {
                    CHECK.fails("babble(" + link + ", " + size + ")", INDEX, () -> x.babble(link, size));
                }
            }
            for (int size : new int[] {0, 9}) {
                CHECK.fails("size " + size + ", round " + round, ARGUMENT, () -> x.babble(0, size));
            }
            for (int i = x.link(0, 0); i < 4; i++) {
                x.babble(0, 1);
            }
        }
        CHECK.fails("four wait", FULL, () -> x.babble(0, 1));
        CHECK.fails("four wait there, no link", INDEX, () -> x.babble(6, 1));
    }

    private static void babbleRefused() {
        CHECK.promise("promise 14: behind a refused call");
        GatedLinks x = new GatedLinks();
        CHECK.fails("size 9", ARGUMENT, () -> x.babble(0, 9));
        CHECK.fails("size 0", ARGUMENT, () -> x.babble(0, 0));
        CHECK.fails("link 6", INDEX, () -> x.babble(6, 1));
        CHECK.is("none waits", 0, x.link(0, 0));
        for (int i = 0; i < 4; i++) {
            x.babble(0, 1);
        }
        CHECK.fails("a fifth", FULL, () -> x.babble(0, 8));
        x.tick(4);
        CHECK.is("four are done at 4", 4, x.link(0, 1));
        CHECK.is("no fifth is there", NONE, x.link(0, 2));
        x.tick(9);
        CHECK.is("nor later", 4, x.link(0, 1));
    }

    private static void toldBounds() {
        CHECK.promise("promise 15: told");
        GatedLinks x = with(flow(8, 1, 0), flow(8, 1, 1));
        CHECK.fails("none is in force", INDEX, () -> x.told(0, 0));
        x.build(2);
        CHECK.fails("found only", INDEX, () -> x.told(0, 0));
        x.activate();
        CHECK.fails("awaited only", INDEX, () -> x.told(0, 0));
        x.tick(1);
        int[] due = {1, 0, 0, 0, NONE, 0};
        for (int stream = 0; stream < 2; stream++) {
            int of = stream;
            CHECK.fails("what -1", INDEX, () -> x.told(of, -1));
            CHECK.fails("what 6", INDEX, () -> x.told(of, 6));
            for (int what = 0; what < 6; what++) {
                CHECK.is("told(" + stream + ", " + what + ")", due[what], x.told(stream, what));
            }
        }
        for (int what = 0; what < 6; what++) {
            int of = what;
            CHECK.fails("stream -1", INDEX, () -> x.told(-1, of));
            CHECK.fails("stream 2", INDEX, () -> x.told(2, of));
        }
        x.clear();
        x.build(0);
        x.activate();
        x.tick(32);
        CHECK.is("one of no streams is in force", 0, x.streams(2));
        CHECK.fails("there is no stream 0 any more", INDEX, () -> x.told(0, 0));
    }

    private static void toldTwoAtOnce() {
        GatedLinks x = new GatedLinks();
        CHECK.fails("none in force, what 6", INDEX, () -> x.told(0, 6));
        GatedLinks y = twoInForce();
        for (int stream : new int[] {-1, 2}) {
            for (int what : new int[] {-1, 6}) {
                CHECK.fails("told(" + stream + ", " + what + ")", INDEX, () -> y.told(stream, what));
            }
        }
        CHECK.is("behind them", 1, y.told(0, 0));
    }

    private static void linkBounds() {
        CHECK.promise("promise 16: link");
        GatedLinks x = new GatedLinks();
        int[] due = {0, 0, NONE, 0};
        for (int what = 0; what < 4; what++) {
            int of = what;
            CHECK.fails("link -1", INDEX, () -> x.link(-1, of));
            CHECK.fails("link 6", INDEX, () -> x.link(6, of));
            CHECK.is("link(0, " + what + ")", due[what], x.link(0, what));
            CHECK.is("link(5, " + what + ")", due[what], x.link(5, what));
        }
        CHECK.fails("what -1", INDEX, () -> x.link(0, -1));
        CHECK.fails("what 4", INDEX, () -> x.link(5, 4));
    }

    private static void linkTwoAtOnce() {
        GatedLinks x = new GatedLinks();
        x.babble(0, 1);
        for (int link : new int[] {-1, 6}) {
            for (int what : new int[] {-1, 4}) {
                CHECK.fails("link(" + link + ", " + what + ")", INDEX, () -> x.link(link, what));
            }
        }
        CHECK.is("behind them", 1, x.link(0, 0));
    }

    private static void streamsBounds() {
        CHECK.promise("promise 17: streams");
        GatedLinks x = with(flow(8, 1, 0), flow(8, 1, 0), flow(8, 1, 0));
        CHECK.fails("-1", INDEX, () -> x.streams(-1));
        CHECK.fails("4", INDEX, () -> x.streams(4));
        x.build(9);
        x.activate();
        x.tick(1);
        x.clear();
        Sample.add(x, flow(8, 1, 0));
        x.build(1);
        x.activate();
        x.clear();
        x.build(0);
        Sample.add(x, flow(8, 1, 0));
        Sample.add(x, flow(8, 1, 0));
        CHECK.is("there are", 2, x.streams(0));
        CHECK.is("found", 0, x.streams(1));
        CHECK.is("in force", 3, x.streams(2));
        CHECK.is("awaited", 1, x.streams(3));
        CHECK.fails("4 behind them", INDEX, () -> x.streams(4));
    }
}
