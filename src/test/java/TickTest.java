/** 'Terms' from the time on (the tick, what cuts a link): each sentence that names a boundary has a test of its own. */
public final class TickTest {
    private static final int NONE = GatedLinks.NONE;
    private static final int[] NO_DELAYS = Sample.NO_DELAYS;

    private static final Check CHECK = new Check("TickTest");

    public static void main(String[] args) {
        timeIsNoneAtFirst();
        inForceIsAsItWasFound();
        reservedByTheDelaysOfThen();
        reservedRoundTheCycle();
        forceAtMultiplesOf32();
        forceBehindAFrameOnItsWay();
        forceBehindAFrameThatIsLost();
        forceBehindABusyLink();
        forceBehindABusyLinkThatIsCut();
        forceWithFramesThatWait();
        forceOfOneAlone();
        forceMakesAllNew();
        silentWhileOneIsAwaited();
        talksInTheTickOfForce();
        onAndInTimeAtFirst();
        lateFromTimeZeroOn();
        lateNotBeforeTimeZero();
        lateFromNoneToSeven();
        lateBeforeItWasInForce();
        lateIsDroppedAndBlocked();
        blockedIsDroppedInTime();
        othersGoOn();
        lostWhereItBeginsOnACutLink();
        notLostElsewhere();
        gotOnALinkThatIsCut();
        waitsForAGapThatFits();
        waitsInOrder();
        waitsWithNothingReserved();
        waitsWhileCut();
        waitsOnEachLink();
        doneBehindTheLastTick();
        cutLosesFromBehindTheBegin();
        cutLosesOnTheMiddleLink();
        cutLosesAllThatAreOnIt();
        cutLosesOneAndKeepsTheNext();
        cutTakesABusyFrame();
        cutLeavesWhatWaits();
        noCutTakesNothing();
        CHECK.end();
    }

    private static GatedLinks awaited(int[] delays, int[]... flows) {
        return Sample.awaited(delays, flows);
    }

    private static int[] flow(int period, int size, int... path) {
        return Sample.flow(period, size, 60, path);
    }

    /** told 0 .. 5 of a stream. */
    private static void told(GatedLinks x, String when, int stream, int... due) {
        for (int what = 0; what < due.length; what++) {
            CHECK.is(when + ": told(" + stream + ", " + what + ")", due[what], x.told(stream, what));
        }
    }

    private static void timeIsNoneAtFirst() {
        CHECK.promise("time is 0 at first");
        for (int n : new int[] {1, 2, 31, 200}) {
            CHECK.is("tick(" + n + ")", n, new GatedLinks().tick(n));
        }
    }

    private static void inForceIsAsItWasFound() {
        CHECK.promise("in force has the streams and offsets with which it was found");
        GatedLinks x = awaited(NO_DELAYS, flow(8, 1, 0), flow(8, 1, 0));
        x.tick(1);
        x.clear();
        Sample.add(x, flow(32, 4, 5));
        x.delay(0, 9);
        x.build(32);
        x.tick(1);
        told(x, "stream 0", 0, 0, 1, 0, 0, 1, 0);
        told(x, "stream 1, not yet", 1, 0, 0, 0, 0, NONE, 0);
        x.tick(1);
        told(x, "stream 1, at its old offset", 1, 1, 0, 0, 0, NONE, 0);
        x.tick(1);
        told(x, "stream 1, with its old delay", 1, 0, 1, 0, 0, 1, 0);
        CHECK.is("two are in force", 2, x.streams(2));
        CHECK.is("one is found", 1, x.streams(1));
    }

    /** With a delay of 3 link 1 is reserved at 6 .. 8 of 16, with 0 at 3 .. 5, with 9 at 12 .. 14. */
    private static void reservedByTheDelaysOfThen() {
        CHECK.promise("reserved, with the links' delays as they were then");
        for (int later : new int[] {0, 9}) {
            for (int t = 1; t < 32; t++) {
                GatedLinks x = awaited(new int[] {3}, flow(16, 2, 0, 1));
                x.tick(t);
                x.delay(0, later);
                x.babble(1, 1);
                x.tick(1);
                boolean isReserved = t % 16 >= 6 && t % 16 <= 8;
                CHECK.is("waits behind the tick at " + t, isReserved ? 1 : 0, x.link(1, 0));
            }
        }
    }

    /** The tick before a frame of offset 0 is the last one of the cycle, for each cycle. */
    private static void reservedRoundTheCycle() {
        CHECK.promise("a tick of the time is reserved if it is in a span");
        for (int before : new int[] {31, 63, 95}) {
            GatedLinks x = awaited(NO_DELAYS, flow(32, 1, 0));
            x.tick(before);
            x.babble(0, 1);
            x.tick(2);
            CHECK.is(before + " and the next are reserved", 1, x.link(0, 0));
            x.tick(1);
            CHECK.is("the one behind them is not", 0, x.link(0, 0));
            GatedLinks y = awaited(NO_DELAYS, flow(32, 1, 0));
            y.tick(before - 1);
            y.babble(0, 1);
            y.tick(1);
            CHECK.is("the one before them is not", 0, y.link(0, 0));
        }
    }

    private static void forceAtMultiplesOf32() {
        CHECK.promise("t is a multiple of 32");
        for (int at = 0; at <= 65; at++) {
            GatedLinks x = Sample.with(NO_DELAYS, flow(8, 1, 0));
            x.build(1);
            if (at > 0) {
                x.tick(at);
            }
            x.activate();
            int due = (at + 31) / 32 * 32;
            if (due > at) {
                x.tick(due - at);
            }
            CHECK.is("from " + at + ", before the tick at " + due, NONE, x.streams(2));
            CHECK.is("from " + at + ", still awaited", 1, x.streams(3));
            x.tick(1);
            CHECK.is("from " + at + ", behind it", 1, x.streams(2));
            CHECK.is("from " + at + ", not awaited any more", NONE, x.streams(3));
        }
    }

    /** The frame of time 24 is through at 25 + the delay. */
    private static void forceBehindAFrameOnItsWay() {
        CHECK.promise("no stream's frame is on its way");
        for (int delay = 5; delay <= 9; delay++) {
            GatedLinks x = awaited(new int[] {delay}, flow(8, 1, 0));
            x.tick(25);
            x.activate();
            x.tick(8);
            CHECK.is("through at " + (25 + delay), 25 + delay < 32 ? NONE : 1, x.streams(3));
            x.tick(31);
            CHECK.is("not at 63", 25 + delay < 32 ? NONE : 1, x.streams(3));
            x.tick(1);
            CHECK.is("at 64", NONE, x.streams(3));
        }
    }

    private static void forceBehindAFrameThatIsLost() {
        GatedLinks x = awaited(new int[] {9}, flow(8, 1, 0));
        x.tick(25);
        x.activate();
        x.tick(7);
        CHECK.is("on its way at 32", 1, x.told(0, 0));
        x.cut(0, true);
        x.cut(0, false);
        told(x, "lost at 32", 0, 0, 3, 1);
        x.tick(1);
        CHECK.is("nothing is on its way in the tick at 32", NONE, x.streams(3));
        told(x, "anew", 0, 1, 0, 0, 0, NONE, 0);
    }

    private static void forceBehindABusyLink() {
        CHECK.promise("no link is busy with a frame that waited");
        for (int link = 0; link < 6; link++) {
            for (int size = 1; size <= 8; size++) {
                GatedLinks x = new GatedLinks();
                x.build(0);
                x.tick(27);
                x.activate();
                x.babble(link, size);
                x.tick(6);
                boolean isOver = 27 + size <= 32;
                CHECK.is("busy on " + link + " till " + (27 + size), isOver ? 0 : NONE, x.streams(2));
                x.tick(31);
                CHECK.is("not at 63", isOver ? 0 : NONE, x.streams(2));
                x.tick(1);
                CHECK.is("at 64", 0, x.streams(2));
            }
        }
    }

    private static void forceBehindABusyLinkThatIsCut() {
        GatedLinks x = new GatedLinks();
        x.build(0);
        x.tick(30);
        x.activate();
        x.babble(3, 8);
        x.tick(2);
        CHECK.is("busy at 32", 5, x.link(3, 2));
        x.cut(3, true);
        x.tick(1);
        CHECK.is("not in the tick at 32", 0, x.streams(2));
    }

    private static void forceWithFramesThatWait() {
        GatedLinks x = new GatedLinks();
        x.build(0);
        x.activate();
        x.cut(2, true);
        x.babble(2, 8);
        x.tick(1);
        CHECK.is("one that only waits is not in the way", 0, x.streams(2));
        CHECK.is("it waits", 1, x.link(2, 0));
    }

    private static void forceOfOneAlone() {
        CHECK.promise("it is in force from now on, no other one is awaited");
        GatedLinks x = awaited(NO_DELAYS, flow(8, 1, 0));
        x.activate();
        x.tick(1);
        CHECK.is("none is awaited", NONE, x.streams(3));
        x.tick(31);
        told(x, "at 32", 0, 0, 4, 0, 0, 1, 0);
        x.tick(2);
        told(x, "it did not come once more", 0, 0, 5, 0, 0, 1, 0);
    }

    private static void forceMakesAllNew() {
        CHECK.promise("all its streams are unblocked, and their numbers told below are 0 (the latency NONE)");
        GatedLinks x = awaited(NO_DELAYS, flow(32, 1, 0), flow(32, 1, 1), flow(32, 1, 2));
        x.tick(1);
        x.talk(0, true, 7);
        x.talk(1, false, 7);
        x.cut(2, true);
        x.tick(7);
        told(x, "dropped and blocked", 0, 0, 1, 0, 1, 1, 1);
        x.activate();
        x.tick(24);
        x.cut(0, true);
        x.tick(1);
        told(x, "not blocked, its frame of 32 in time and lost", 0, 0, 0, 1, 0, NONE, 0);
        told(x, "on and not late", 1, 1, 0, 0, 0, NONE, 0);
        told(x, "as cut as before", 2, 0, 0, 1, 0, NONE, 0);
    }

    private static void silentWhileOneIsAwaited() {
        CHECK.promise("if none is awaited: each stream talks");
        GatedLinks x = awaited(NO_DELAYS, flow(8, 1, 0));
        x.tick(25);
        x.babble(1, 8);
        x.activate();
        x.tick(8);
        told(x, "at 33: silent at 32, as a link is busy", 0, 0, 4, 0, 0, 1, 0);
        CHECK.is("still awaited", 1, x.streams(3));
        x.tick(31);
        told(x, "at 64: silent all the time", 0, 0, 4, 0, 0, 1, 0);
        x.tick(1);
        told(x, "at 65", 0, 1, 0, 0, 0, NONE, 0);
        GatedLinks y = awaited(NO_DELAYS, flow(8, 1, 0));
        y.tick(1);
        y.talk(0, true, 7);
        y.activate();
        y.tick(31);
        told(y, "a late one is silent too", 0, 0, 1, 0, 0, 1, 0);
    }

    private static void talksInTheTickOfForce() {
        GatedLinks x = awaited(NO_DELAYS, flow(8, 4, 0));
        x.tick(1);
        told(x, "at 0 already", 0, 1, 0, 0, 0, NONE, 0);
        GatedLinks y = Sample.with(NO_DELAYS, flow(32, 4, 0));
        y.build(1);
        y.tick(5);
        y.activate();
        y.tick(28);
        told(y, "at 32 already", 0, 1, 0, 0, 0, NONE, 0);
    }

    private static void onAndInTimeAtFirst() {
        CHECK.promise("on, and late by 0, at first and whenever one comes into force");
        int[][] five = new int[5][];
        for (int i = 0; i < 5; i++) {
            five[i] = flow(32, 1, i);
        }
        GatedLinks x = awaited(NO_DELAYS, five);
        for (int round = 0; round < 3; round++) {
            x.tick(1);
            for (int i = 0; i < 5; i++) {
                told(x, "round " + round, i, 1, 0, 0, 0, NONE, 0);
                x.talk(i, i % 2 == 0, 7);
            }
            x.tick(1);
            x.activate();
            x.tick(30);
        }
    }

    private static void lateFromTimeZeroOn() {
        CHECK.promise("if t - l is not negative, and a time at which its frame begins");
        GatedLinks x = awaited(NO_DELAYS, flow(8, 1, 0));
        x.tick(1);
        x.talk(0, true, 1);
        x.tick(1);
        told(x, "1 - 1 is 0, its frame of then comes late", 0, 0, 1, 0, 1, 1, 1);
        x.tick(7);
        told(x, "9 - 1 is not yet", 0, 0, 1, 0, 1, 1, 1);
        x.tick(1);
        told(x, "9 - 1 is 8", 0, 0, 1, 0, 2, 1, 1);
    }

    /** Stream 1 begins at 7, 15, .. and not at -1. */
    private static void lateNotBeforeTimeZero() {
        for (int late = 2; late <= 7; late++) {
            GatedLinks x = Sample.lastOffsetOf8();
            x.tick(1);
            x.talk(1, true, late);
            x.tick(6 + late);
            told(x, "late by " + late + ", nothing came at " + (late - 1), 1, 0, 0, 0, 0, NONE, 0);
            x.tick(1);
            told(x, "late by " + late + ", at " + (7 + late), 1, 0, 0, 0, 1, NONE, 1);
        }
    }

    private static void lateFromNoneToSeven() {
        CHECK.promise("late by l ticks (0 .. 7)");
        for (int late = 0; late <= 7; late++) {
            GatedLinks x = awaited(NO_DELAYS, flow(32, 1, 0));
            x.tick(31);
            x.talk(0, true, late);
            x.tick(1 + late);
            told(x, "late by " + late + ", not before", 0, 0, 1, 0, 0, 1, 0);
            x.tick(1);
            boolean isLate = late > 0;
            told(x, "late by " + late, 0, isLate ? 0 : 1, 1, 0, isLate ? 1 : 0, 1, isLate ? 1 : 0);
        }
    }

    /** The frames of stream 1 begin at 7, 15, .. 31, ..; its talker comes into force at 32, and is late for 31. */
    private static void lateBeforeItWasInForce() {
        GatedLinks x = Sample.with(NO_DELAYS, flow(8, 3, 0), flow(8, 3, 1, 0));
        x.build(9);
        x.tick(32);
        x.activate();
        x.tick(1);
        x.talk(1, true, 2);
        x.tick(1);
        told(x, "33 - 2 is 31", 1, 0, 0, 0, 1, NONE, 1);
    }

    private static void lateIsDroppedAndBlocked() {
        CHECK.promise("a frame that comes late is dropped, and the stream is blocked");
        GatedLinks x = awaited(NO_DELAYS, flow(8, 1, 0));
        x.tick(2);
        x.talk(0, true, 1);
        x.tick(7);
        told(x, "not blocked before", 0, 0, 1, 0, 0, 1, 0);
        x.tick(1);
        told(x, "blocked", 0, 0, 1, 0, 1, 1, 1);
        x.tick(8);
        told(x, "late and blocked: each is dropped", 0, 0, 1, 0, 2, 1, 1);
        x.unblock(0);
        x.tick(8);
        told(x, "and blocked again", 0, 0, 1, 0, 3, 1, 1);
    }

    private static void blockedIsDroppedInTime() {
        CHECK.promise("a frame of a stream that is blocked is dropped");
        GatedLinks x = awaited(NO_DELAYS, flow(8, 1, 0));
        x.tick(2);
        x.talk(0, true, 1);
        x.tick(8);
        x.talk(0, true, 0);
        x.tick(7);
        told(x, "one in time, at 16", 0, 0, 1, 0, 2, 1, 1);
        x.tick(7);
        x.unblock(0);
        x.tick(1);
        told(x, "unblocked before the tick at 24", 0, 1, 1, 0, 2, 1, 0);
    }

    private static void othersGoOn() {
        CHECK.promise("another one is on its way");
        GatedLinks x = awaited(new int[] {9}, flow(8, 1, 0), flow(8, 1, 0));
        x.tick(9);
        x.talk(0, true, 1);
        x.tick(1);
        told(x, "dropped at 9, and two are on their way", 0, 2, 0, 0, 1, NONE, 1);
        x.tick(1);
        told(x, "that from 0 is got, though it is blocked", 0, 1, 1, 0, 1, 10, 1);
        told(x, "the next stream is not blocked", 1, 2, 0, 0, 0, NONE, 0);
    }

    /** With a delay of 1 it begins on its links at 0, 4 and 8. */
    private static void lostWhereItBeginsOnACutLink() {
        CHECK.promise("each frame that begins on a link at time t is lost if that is cut");
        for (int hop = 0; hop < 3; hop++) {
            int begin = 4 * hop;
            GatedLinks x = awaited(new int[] {1, 1, 1}, flow(32, 1, 2, 0, 1));
            int link = new int[] {2, 0, 1}[hop];
            if (begin > 0) {
                x.tick(begin);
            }
            x.cut(link, true);
            CHECK.is("before it begins on link " + link, 0, begin > 0 ? x.told(0, 2) : 0);
            x.tick(1);
            told(x, "as it begins on link " + link, 0, 0, 0, 1, 0, NONE, 0);
        }
    }

    private static void notLostElsewhere() {
        for (int hop = 1; hop < 3; hop++) {
            int begin = 4 * hop;
            GatedLinks x = awaited(new int[] {1, 1, 1}, flow(32, 1, 2, 0, 1));
            int link = new int[] {2, 0, 1}[hop];
            x.cut(link, true);
            x.tick(begin);
            x.cut(link, false);
            x.tick(1);
            told(x, "not cut any more as it begins", 0, 1, 0, 0, 0, NONE, 0);
            GatedLinks y = awaited(new int[] {1, 1, 1}, flow(32, 1, 2, 0, 1));
            y.tick(begin - 1);
            y.cut(link, true);
            y.tick(1);
            told(y, "between the links, the tick before it begins", 0, 1, 0, 0, 0, NONE, 0);
        }
    }

    private static void gotOnALinkThatIsCut() {
        CHECK.promise("each that is through the last one of its links at time t is got");
        GatedLinks x = awaited(new int[] {2}, flow(32, 3, 0));
        x.tick(5);
        told(x, "not before", 0, 1, 0, 0, 0, NONE, 0);
        x.cut(0, true);
        told(x, "cut at 5 as it is through", 0, 1, 0, 0, 0, NONE, 0);
        x.tick(1);
        told(x, "got in the tick at 5", 0, 0, 1, 0, 0, 5, 0);
        GatedLinks y = awaited(new int[] {0, 2}, flow(32, 3, 0, 1));
        y.tick(6);
        y.cut(0, true);
        y.tick(5);
        told(y, "the first link does not matter any more", 0, 0, 1, 0, 0, 10, 0);
    }

    private static void waitsForAGapThatFits() {
        CHECK.promise("from t on, for the size of the first one of them, no tick is reserved");
        for (int size = 1; size <= 4; size++) {
            int gap = 8 - (size + 1);
            for (int waiting = 1; waiting <= 8; waiting++) {
                GatedLinks x = awaited(NO_DELAYS, flow(8, size, 0));
                x.babble(0, waiting);
                x.tick(size);
                CHECK.is(waiting + " waits for the gap of " + gap, 1, x.link(0, 0));
                x.tick(1);
                CHECK.is(waiting + " in a gap of " + gap, waiting <= gap ? 0 : 1, x.link(0, 0));
                x.tick(64);
                CHECK.is("done", waiting <= gap ? 1 : 0, x.link(0, 1));
            }
            GatedLinks y = awaited(NO_DELAYS, flow(8, size, 0));
            y.tick(size + 1);
            y.babble(0, gap);
            y.tick(7);
            CHECK.is("one tick too late for the gap", 1, y.link(0, 0));
            y.tick(1);
            CHECK.is("it takes the next one", 0, y.link(0, 0));
        }
    }

    private static void waitsInOrder() {
        CHECK.promise("if it is not busy: the first one of them begins");
        GatedLinks x = awaited(NO_DELAYS, flow(16, 1, 0));
        int[] sizes = {8, 2, 8, 1};
        for (int size : sizes) {
            x.babble(0, size);
        }
        int[] begins = {1, 9, 17, 25};
        for (int t = 0; t < 30; t++) {
            x.tick(1);
            int waits = 4;
            for (int begin : begins) {
                waits -= begin <= t ? 1 : 0;
            }
            CHECK.is("how many wait behind the tick at " + t, waits, x.link(0, 0));
        }
        CHECK.is("all are done", 4, x.link(0, 1));
    }

    private static void waitsWithNothingReserved() {
        GatedLinks x = Sample.with(NO_DELAYS, flow(8, 4, 0));
        x.build(1);
        x.tick(1);
        x.babble(0, 8);
        x.tick(1);
        CHECK.is("found only", 5, x.link(0, 2));
        GatedLinks y = Sample.with(NO_DELAYS, flow(8, 4, 0));
        y.build(1);
        y.tick(1);
        y.activate();
        y.babble(0, 8);
        y.tick(1);
        CHECK.is("awaited only", 5, y.link(0, 2));
        GatedLinks z = awaited(NO_DELAYS);
        z.babble(0, 8);
        z.tick(1);
        CHECK.is("one of no streams is in force", 5, z.link(0, 2));
    }

    private static void waitsWhileCut() {
        CHECK.promise("not cut, and frames wait for it");
        GatedLinks x = new GatedLinks();
        x.cut(0, true);
        x.babble(0, 1);
        x.tick(40);
        CHECK.is("waits while it is cut", 1, x.link(0, 0));
        CHECK.is("nothing is on it", NONE, x.link(0, 2));
        x.cut(0, false);
        x.tick(1);
        CHECK.is("begins at once", 1, x.link(0, 1));
        x.tick(40);
        CHECK.is("none waits, none is done", 1, x.link(0, 1));
    }

    private static void waitsOnEachLink() {
        CHECK.promise("each link, in order");
        GatedLinks x = awaited(NO_DELAYS, flow(8, 4, 2));
        for (int link = 0; link < 6; link++) {
            x.babble(link, link + 1);
        }
        x.tick(1);
        for (int link = 0; link < 6; link++) {
            CHECK.is("link " + link + " behind the tick at 0", link == 2 ? 1 : 0, x.link(link, 0));
            CHECK.is("on " + link, link == 0 ? NONE : link == 2 ? 0 : 5, x.link(link, 2));
        }
    }

    private static void doneBehindTheLastTick() {
        CHECK.promise("a frame that waited is done when its last tick is over");
        for (int size = 1; size <= 8; size++) {
            GatedLinks x = new GatedLinks();
            x.babble(4, size);
            for (int t = 1; t <= 9; t++) {
                x.tick(1);
                CHECK.is("size " + size + " done at " + t, t >= size ? 1 : 0, x.link(4, 1));
                CHECK.is("size " + size + " on it at " + t, t >= size ? NONE : 5, x.link(4, 2));
            }
        }
    }

    /** Of size 2 with a delay of 3 it begins on link 0 at 0 and is through at 5. */
    private static void cutLosesFromBehindTheBegin() {
        CHECK.promise("began on it at a time before t, and is through it and its delay at a time behind t");
        for (int at = 1; at <= 6; at++) {
            GatedLinks x = awaited(new int[] {3}, flow(32, 2, 0, 1));
            x.tick(at);
            x.cut(0, true);
            told(x, "cut at " + at, 0, at < 5 ? 0 : 1, 0, at < 5 ? 1 : 0, 0, NONE, 0);
        }
        GatedLinks y = awaited(NO_DELAYS, flow(32, 1, 0, 1));
        y.tick(1);
        y.cut(0, true);
        told(y, "of size 1 without a delay it is through at 1", 0, 1, 0, 0, 0, NONE, 0);
        GatedLinks z = awaited(new int[] {1}, flow(32, 1, 0, 1));
        z.tick(1);
        z.cut(0, true);
        told(z, "of size 1 with a delay of 1 it is not", 0, 0, 0, 1, 0, NONE, 0);
    }

    /** On link 4 it begins at 4 and is through at 8, with the delay of 2. */
    private static void cutLosesOnTheMiddleLink() {
        for (int at = 2; at <= 10; at++) {
            GatedLinks x = awaited(new int[] {0, 0, 0, 0, 2}, flow(32, 2, 0, 4, 1));
            x.tick(at);
            x.cut(4, true);
            x.cut(4, false);
            boolean isLost = at > 4 && at < 8;
            told(x, "cut at " + at, 0, isLost ? 0 : 1, 0, isLost ? 1 : 0, 0, NONE, 0);
            x.tick(20);
            told(x, "later", 0, 0, isLost ? 0 : 1, isLost ? 1 : 0, 0, isLost ? NONE : 12, 0);
        }
    }

    private static void cutLosesAllThatAreOnIt() {
        GatedLinks x = awaited(new int[] {9}, flow(8, 1, 0), flow(8, 1, 0), flow(8, 1, 1));
        x.tick(9);
        told(x, "two of stream 0", 0, 2, 0, 0, 0, NONE, 0);
        told(x, "one of stream 1", 1, 1, 0, 0, 0, NONE, 0);
        told(x, "one of stream 2", 2, 1, 1, 0, 0, 1, 0);
        x.cut(0, true);
        told(x, "two of stream 0 are lost", 0, 0, 0, 2, 0, NONE, 0);
        told(x, "one of stream 1 is lost", 1, 0, 0, 1, 0, NONE, 0);
        told(x, "none of stream 2", 2, 1, 1, 0, 0, 1, 0);
        x.cut(0, true);
        told(x, "and not once more", 0, 0, 0, 2, 0, NONE, 0);
    }

    /** The frame of 0 is on link 1 from 12 till 22, that of 8 on link 0 till 18, and on link 1 from 20. */
    private static void cutLosesOneAndKeepsTheNext() {
        GatedLinks x = awaited(new int[] {9, 9}, flow(8, 1, 0, 1));
        x.tick(14);
        told(x, "at 14", 0, 2, 0, 0, 0, NONE, 0);
        x.cut(1, true);
        x.cut(1, false);
        told(x, "that of 0 is lost", 0, 1, 0, 1, 0, NONE, 0);
        x.tick(16);
        told(x, "that of 8 is on its way till 30", 0, 3, 0, 1, 0, NONE, 0);
        x.tick(1);
        told(x, "and got", 0, 2, 1, 1, 0, 22, 0);
        GatedLinks y = awaited(NO_DELAYS, flow(8, 4, 0));
        y.tick(10);
        CHECK.is("the frame of 8 is on link 0", 0, y.link(0, 2));
        y.cut(0, true);
        CHECK.is("a lost one is not", NONE, y.link(0, 2));
        told(y, "that of 0 was got, that of 8 is lost", 0, 0, 1, 1, 0, 4, 0);
    }

    private static void cutTakesABusyFrame() {
        CHECK.promise("a frame that waited with which it is busy is gone, and not done");
        for (int at = 1; at <= 4; at++) {
            GatedLinks x = new GatedLinks();
            x.babble(1, 3);
            x.babble(0, 3);
            x.tick(at);
            x.cut(1, true);
            CHECK.is("of size 3, cut at " + at, at < 3 ? 0 : 1, x.link(1, 1));
            CHECK.is("nothing is on it", NONE, x.link(1, 2));
            x.cut(1, false);
            x.tick(5);
            CHECK.is("it does not come again", at < 3 ? 0 : 1, x.link(1, 1));
            CHECK.is("another link's is done", 1, x.link(0, 1));
        }
    }

    private static void cutLeavesWhatWaits() {
        GatedLinks x = new GatedLinks();
        for (int i = 0; i < 4; i++) {
            x.babble(1, 8);
        }
        x.cut(1, true);
        CHECK.is("none had begun", 4, x.link(1, 0));
        x.cut(1, false);
        x.tick(1);
        x.cut(1, true);
        CHECK.is("the first had", 3, x.link(1, 0));
        x.cut(1, false);
        x.tick(1);
        CHECK.is("the next begins at once", 2, x.link(1, 0));
        x.tick(7);
        CHECK.is("and is done", 1, x.link(1, 1));
    }

    private static void noCutTakesNothing() {
        CHECK.promise("a link that is not cut, and stays so, loses nothing");
        GatedLinks x = awaited(new int[] {3}, flow(32, 2, 0));
        x.babble(1, 4);
        x.tick(2);
        CHECK.no("link 0 was not cut", x.cut(0, false));
        CHECK.no("link 1 was not cut", x.cut(1, false));
        told(x, "on its way", 0, 1, 0, 0, 0, NONE, 0);
        CHECK.is("busy", 5, x.link(1, 2));
        x.tick(4);
        told(x, "got", 0, 0, 1, 0, 0, 5, 0);
        CHECK.is("done", 1, x.link(1, 1));
    }
}
