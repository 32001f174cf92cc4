/** Promises 9 to 13: activate, tick, talk, unblock, cut. */
public final class ForceTest {
    private static final int NONE = GatedLinks.NONE;
    private static final Class<IndexOutOfBoundsException> INDEX = IndexOutOfBoundsException.class;
    private static final Class<IllegalArgumentException> ARGUMENT = IllegalArgumentException.class;
    private static final Class<java.util.NoSuchElementException> ELEMENT = java.util.NoSuchElementException.class;

    private static final Check CHECK = new Check("ForceTest");

    public static void main(String[] args) {
        activateNeedsOne();
        activateTakesThePlace();
        activateKeepsWhatItTook();
        activateWaitsForTheTime();
        activateWaitsForFrames();
        activateWaitsForEachStream();
        activateWaitsForFramesThatWaited();
        activateSilencesTalkers();
        activateMakesAllNew();
        tickEdges();
        tickOrder();
        tickTalksAtOffsets();
        tickGets();
        talkEdges();
        talkOff();
        talkLate();
        talkLateBeforeTimeZero();
        talkBlockedStaysBlocked();
        unblockTells();
        cutTells();
        cutLosesFramesThatBegin();
        cutLosesFramesOnIt();
        cutEdgesOfAFrame();
        cutTakesTheFrameThatWaited();
        CHECK.end();
    }

    /** A new object with one stream, found and activated; link d has the delay delays[d]. */
    private static GatedLinks one(int[] delays, int period, int size, int... path) {
        GatedLinks x = new GatedLinks();
        for (int link = 0; link < delays.length; link++) {
            x.delay(link, delays[link]);
        }
        add(x, period, size, path);
        x.build(100);
        x.activate();
        return x;
    }

    private static void add(GatedLinks x, int period, int size, int... path) {
        x.stream(period, size, 60, path[0], path.length > 1 ? path[1] : NONE, path.length > 2 ? path[2] : NONE);
    }

    private static int[] none() {
        return new int[0];
    }

    /** told 0 .. 5 of a stream. */
    private static void told(GatedLinks x, String when, int stream, int... due) {
        for (int what = 0; what < due.length; what++) {
            CHECK.is(when + ": told(" + stream + ", " + what + ")", due[what], x.told(stream, what));
        }
    }

    private static void activateNeedsOne() {
        CHECK.promise("promise 9");
        GatedLinks x = new GatedLinks();
        CHECK.fails("nothing was found", ELEMENT, x::activate);
        x.stream(8, 1, 60, 0, NONE, NONE);
        CHECK.fails("not built", ELEMENT, x::activate);
        x.build(0);
        CHECK.fails("a search that ended", ELEMENT, x::activate);
        CHECK.is("nothing awaited", NONE, x.streams(3));
        x.build(1);
        CHECK.is("found, not awaited", NONE, x.streams(3));
        x.activate();
        CHECK.is("awaited", 1, x.streams(3));
        CHECK.is("not in force yet", NONE, x.streams(2));
        CHECK.is("still found", 1, x.streams(1));
        x.tick(1);
        CHECK.is("not awaited any more", NONE, x.streams(3));
        CHECK.is("in force", 1, x.streams(2));
        CHECK.is("found all the time", 1, x.streams(1));
    }

    private static void activateTakesThePlace() {
        GatedLinks x = one(none(), 8, 1, 0);
        x.tick(1);
        x.activate();
        add(x, 8, 1, 1);
        x.build(10);
        CHECK.is("the awaited one of before", 1, x.streams(3));
        x.activate();
        CHECK.is("the new one in its place", 2, x.streams(3));
        CHECK.is("in force as before", 1, x.streams(2));
        x.tick(32);
        CHECK.is("in force", 2, x.streams(2));
        CHECK.is("none is awaited", NONE, x.streams(3));
        x.tick(64);
        CHECK.is("the one of before doesn't come", 2, x.streams(2));
    }

    private static void activateKeepsWhatItTook() {
        GatedLinks x = new GatedLinks();
        add(x, 8, 1, 0);
        add(x, 8, 1, 0);
        x.build(10);
        x.activate();
        x.clear();
        add(x, 8, 1, 5);
        x.build(10);
        CHECK.is("found", 1, x.streams(1));
        x.tick(4);
        CHECK.is("in force", 2, x.streams(2));
        told(x, "stream 0, from 0 to 1", 0, 0, 1, 0, 0, 1, 0);
        told(x, "stream 1, from 2 to 3", 1, 0, 1, 0, 0, 1, 0);
    }

    private static void activateWaitsForTheTime() {
        GatedLinks x = new GatedLinks();
        x.tick(1);
        x.build(0);
        x.activate();
        x.tick(31);
        CHECK.is("at 32 the tick is not yet", NONE, x.streams(2));
        CHECK.is("awaited", 0, x.streams(3));
        x.tick(1);
        CHECK.is("behind the tick at 32", 0, x.streams(2));
        CHECK.is("none awaited", NONE, x.streams(3));
        for (int at = 1; at < 32; at++) {
            GatedLinks y = new GatedLinks();
            y.build(0);
            y.tick(at);
            y.activate();
            y.tick(32 - at);
            CHECK.is("from " + at + " to 32", NONE, y.streams(2));
            y.tick(1);
            CHECK.is("from " + at + " to 33", 0, y.streams(2));
        }
    }

    private static void activateWaitsForFrames() {
        GatedLinks x = one(new int[] {7}, 8, 1, 0);
        x.tick(25);
        x.activate();
        told(x, "it is through at 32, but that tick is not yet", 0, 1, 3);
        x.tick(8);
        told(x, "at 33", 0, 0, 4);
        CHECK.is("that was too late for 32", 1, x.streams(3));
        x.tick(31);
        CHECK.is("nothing new at 64", 1, x.streams(3));
        told(x, "nothing was talked till 64", 0, 0, 4, 0, 0, 8, 0);
        x.tick(1);
        CHECK.is("in force at 64", NONE, x.streams(3));
        told(x, "and anew", 0, 1, 0, 0, 0, NONE, 0);
        GatedLinks y = one(new int[] {6}, 8, 1, 0);
        y.tick(25);
        y.activate();
        y.tick(8);
        CHECK.is("through at 31: in force at 32", NONE, y.streams(3));
        told(y, "anew", 0, 1, 0, 0, 0, NONE, 0);
    }

    /** The frames of each of five streams are waited for. */
    private static void activateWaitsForEachStream() {
        for (int slow = 0; slow < 5; slow++) {
            GatedLinks x = new GatedLinks();
            x.delay(slow, 9);
            for (int link = 0; link < 5; link++) {
                add(x, 8, 1, link);
            }
            x.build(5);
            x.activate();
            x.tick(25);
            x.activate();
            x.tick(8);
            CHECK.is("stream " + slow + " is on its way till 34", 5, x.streams(3));
            x.tick(31);
            CHECK.is("nothing new at 64", 5, x.streams(3));
            x.tick(1);
            CHECK.is("in force at 64", NONE, x.streams(3));
        }
    }

    private static void activateWaitsForFramesThatWaited() {
        GatedLinks x = new GatedLinks();
        x.tick(25);
        x.build(0);
        x.activate();
        x.babble(4, 8);
        x.tick(8);
        CHECK.is("busy from 25 to 33", NONE, x.streams(2));
        CHECK.is("done", 1, x.link(4, 1));
        x.tick(31);
        CHECK.is("not at 63", NONE, x.streams(2));
        x.babble(4, 8);
        x.tick(1);
        CHECK.is("at 64: a frame that still waits does not matter", 0, x.streams(2));
        GatedLinks y = new GatedLinks();
        y.tick(24);
        y.build(0);
        y.activate();
        y.babble(5, 8);
        y.tick(9);
        CHECK.is("busy from 24 to 32", 0, y.streams(2));
        for (int link = 0; link < 6; link++) {
            GatedLinks z = new GatedLinks();
            z.tick(30);
            z.build(0);
            z.activate();
            z.babble(link, 3);
            z.tick(34);
            CHECK.is("link " + link + " is busy at 32", NONE, z.streams(2));
            z.tick(1);
            CHECK.is("link " + link + " is not at 64", 0, z.streams(2));
        }
    }

    private static void activateSilencesTalkers() {
        GatedLinks x = one(none(), 8, 1, 0);
        x.tick(2);
        x.activate();
        x.tick(30);
        told(x, "awaited from 2 to 32", 0, 0, 1, 0, 0, 1, 0);
        x.tick(1);
        told(x, "anew at 32", 0, 1, 0, 0, 0, NONE, 0);
        x.talk(0, true, 3);
        x.activate();
        x.tick(30);
        told(x, "late ones are silent too", 0, 0, 1, 0, 0, 1, 0);
    }

    private static void activateMakesAllNew() {
        GatedLinks x = new GatedLinks();
        for (int i = 0; i < 3; i++) {
            add(x, 8, 1, i);
        }
        x.build(100);
        x.activate();
        x.tick(1);
        x.talk(0, false, 0);
        x.talk(1, true, 3);
        x.tick(15);
        x.cut(2, true);
        x.tick(1);
        told(x, "a talker that is off", 0, 0, 1, 0, 0, 1, 0);
        told(x, "one that is late", 1, 0, 1, 0, 2, 1, 1);
        told(x, "one whose link is cut", 2, 0, 2, 1, 0, 1, 0);
        x.activate();
        x.tick(15);
        told(x, "at 32 still", 1, 0, 1, 0, 2, 1, 1);
        x.tick(2);
        told(x, "on, and all 0", 0, 0, 1, 0, 0, 1, 0);
        told(x, "not late, not blocked, and all 0", 1, 0, 1, 0, 0, 1, 0);
        told(x, "cut all the same", 2, 0, 0, 1, 0, NONE, 0);
    }

    private static void tickEdges() {
        CHECK.promise("promise 10");
        GatedLinks x = new GatedLinks();
        for (int n : new int[] {0, -1, 201, Integer.MAX_VALUE, Integer.MIN_VALUE}) {
            CHECK.fails("tick(" + n + ")", ARGUMENT, () -> x.tick(n));
        }
        CHECK.is("one", 1, x.tick(1));
        CHECK.is("200 more", 201, x.tick(200));
        CHECK.fails("one too many", ARGUMENT, () -> x.tick(201));
        CHECK.is("that took no time", 202, x.tick(1));
    }

    /** A schedule in force at 0 talks in that tick, and its reserved ticks keep a frame that waits away. */
    private static void tickOrder() {
        GatedLinks x = one(none(), 16, 2, 0);
        x.babble(0, 1);
        x.babble(1, 1);
        x.tick(1);
        told(x, "talks at 0", 0, 1, 0);
        CHECK.is("link 0 is reserved", 1, x.link(0, 0));
        CHECK.is("link 1 is not", 0, x.link(1, 0));
        x.tick(2);
        told(x, "through at 2", 0, 0, 1);
        CHECK.is("from 2 on the other goes", 1, x.link(0, 1));
    }

    private static void tickTalksAtOffsets() {
        GatedLinks x = new GatedLinks();
        add(x, 8, 1, 0);
        add(x, 16, 1, 0);
        add(x, 32, 1, 0);
        x.build(1000);
        CHECK.is("offset 1", 2, x.offset(1));
        CHECK.is("offset 2", 4, x.offset(2));
        x.activate();
        int[] got = new int[3];
        for (int t = 0; t < 100; t++) {
            x.tick(1);
            got[0] += t % 8 == 1 ? 1 : 0;
            got[1] += t % 16 == 3 ? 1 : 0;
            got[2] += t % 32 == 5 ? 1 : 0;
            for (int i = 0; i < 3; i++) {
                int begins = i == 0 ? t % 8 : i == 1 ? t % 16 - 2 : t % 32 - 4;
                told(x, "behind the tick at " + t, i, begins == 0 ? 1 : 0, got[i], 0, 0, got[i] == 0 ? NONE : 1, 0);
            }
        }
    }

    private static void tickGets() {
        GatedLinks x = one(new int[] {2, 3, 4}, 8, 3, 2, 0, 1);
        int latency = 3 + 4 + 2 + 3 + 2 + 2 + 3 + 3;
        x.tick(latency);
        told(x, "before it is through", 0, 3, 0, 0, 0, NONE, 0);
        x.tick(1);
        told(x, "through", 0, 2, 1, 0, 0, latency, 0);
        x.tick(7);
        told(x, "the next is not", 0, 3, 1, 0, 0, latency, 0);
        x.tick(1);
        told(x, "the next is", 0, 2, 2, 0, 0, latency, 0);
    }

    private static void talkEdges() {
        CHECK.promise("promise 11");
        GatedLinks x = new GatedLinks();
        CHECK.fails("nothing in force", INDEX, () -> x.talk(0, true, 0));
        CHECK.fails("nothing in force, and late by 8", INDEX, () -> x.talk(0, true, 8));
        add(x, 8, 1, 0);
        x.build(10);
        x.activate();
        CHECK.fails("only awaited", INDEX, () -> x.talk(0, true, 0));
        x.tick(1);
        add(x, 8, 1, 1);
        x.build(10);
        for (int stream : new int[] {-1, 1, 5, Integer.MAX_VALUE, Integer.MIN_VALUE}) {
            CHECK.fails("stream " + stream, INDEX, () -> x.talk(stream, true, 0));
            CHECK.fails("stream " + stream + ", late by -1", INDEX, () -> x.talk(stream, true, -1));
        }
        for (int late : new int[] {-1, 8, Integer.MAX_VALUE, Integer.MIN_VALUE}) {
            CHECK.fails("late by " + late, ARGUMENT, () -> x.talk(0, false, late));
        }
        x.tick(8);
        told(x, "it is on, and not late", 0, 1, 1, 0, 0, 1, 0);
        x.talk(0, true, 7);
        x.talk(0, true, 0);
        x.tick(8);
        told(x, "what comes last holds", 0, 1, 2, 0, 0, 1, 0);
    }

    private static void talkOff() {
        GatedLinks x = new GatedLinks();
        add(x, 8, 1, 0);
        add(x, 8, 1, 1);
        x.build(10);
        x.activate();
        x.tick(1);
        x.talk(0, false, 0);
        x.tick(15);
        told(x, "off", 0, 0, 1, 0, 0, 1, 0);
        told(x, "on", 1, 0, 2, 0, 0, 1, 0);
        x.talk(0, true, 0);
        x.talk(1, false, 5);
        x.tick(16);
        told(x, "on again", 0, 0, 3, 0, 0, 1, 0);
        told(x, "off, so not late", 1, 0, 2, 0, 0, 1, 0);
        x.talk(1, true, 0);
        x.tick(2);
        told(x, "and on", 1, 0, 3, 0, 0, 1, 0);
    }

    /** From time 2 on, the frame of time 0 comes once more if it is late by 2 or more. */
    private static void talkLate() {
        for (int late = 1; late < 8; late++) {
            GatedLinks x = one(none(), 32, 1, 0);
            x.tick(2);
            x.talk(0, true, late);
            x.tick(30 + late);
            int of0 = late > 1 ? 1 : 0;
            told(x, "late by " + late + ", not yet", 0, 0, 1, 0, of0, 1, of0);
            x.tick(1);
            told(x, "late by " + late, 0, 0, 1, 0, of0 + 1, 1, 1);
        }
    }

    /** The first time it could begin at is 0, so nothing comes late for a time before that. */
    private static void talkLateBeforeTimeZero() {
        GatedLinks x = new GatedLinks();
        x.delay(0, 9);
        add(x, 8, 4, 1);
        add(x, 8, 2, 1);
        x.build(10);
        CHECK.is("offset", 5, x.offset(1));
        x.activate();
        x.tick(1);
        x.talk(1, true, 7);
        x.tick(10);
        told(x, "-3 is no time, and 3 is none of its times", 1, 0, 0, 0, 0, NONE, 0);
        x.tick(1);
        told(x, "not at 11", 1, 0, 0, 0, 0, NONE, 0);
        x.tick(1);
        told(x, "5 and 7 are 12", 1, 0, 0, 0, 1, NONE, 1);
    }

    private static void talkBlockedStaysBlocked() {
        GatedLinks x = one(none(), 8, 1, 0);
        x.tick(2);
        x.talk(0, true, 1);
        x.tick(8);
        told(x, "late at 9", 0, 0, 1, 0, 1, 1, 1);
        x.talk(0, true, 0);
        x.tick(8);
        told(x, "in time at 16, but blocked", 0, 0, 1, 0, 2, 1, 1);
        x.talk(0, false, 0);
        x.tick(8);
        told(x, "off", 0, 0, 1, 0, 2, 1, 1);
        x.talk(0, true, 0);
        x.unblock(0);
        x.tick(8);
        told(x, "not blocked at 32", 0, 0, 2, 0, 2, 1, 0);
    }

    private static void unblockTells() {
        CHECK.promise("promise 12");
        GatedLinks x = new GatedLinks();
        CHECK.fails("nothing in force", INDEX, () -> x.unblock(0));
        add(x, 8, 1, 0);
        add(x, 8, 1, 1);
        x.build(10);
        x.activate();
        CHECK.fails("only awaited", INDEX, () -> x.unblock(0));
        x.tick(1);
        for (int stream : new int[] {-1, 2, 5, Integer.MAX_VALUE, Integer.MIN_VALUE}) {
            CHECK.fails("stream " + stream, INDEX, () -> x.unblock(stream));
        }
        CHECK.no("stream 0 is not blocked", x.unblock(0));
        x.talk(0, true, 2);
        x.talk(1, true, 3);
        x.tick(11);
        told(x, "blocked", 0, 0, 1, 0, 2, 1, 1);
        CHECK.yes("it was blocked", x.unblock(0));
        told(x, "not any more", 0, 0, 1, 0, 2, 1, 0);
        told(x, "the other one is", 1, 0, 1, 0, 2, 1, 1);
        CHECK.no("not any more", x.unblock(0));
        CHECK.yes("the other one was", x.unblock(1));
        x.tick(8);
        told(x, "still late", 0, 0, 1, 0, 3, 1, 1);
    }

    private static void cutTells() {
        CHECK.promise("promise 13");
        GatedLinks x = new GatedLinks();
        for (int link : new int[] {-1, 6, Integer.MAX_VALUE, Integer.MIN_VALUE}) {
            CHECK.fails("cut of link " + link, INDEX, () -> x.cut(link, true));
            CHECK.fails("no cut of link " + link, INDEX, () -> x.cut(link, false));
        }
        for (int link = 0; link < 6; link++) {
            CHECK.no("not cut, as before", x.cut(link, false));
            CHECK.yes("cut", x.cut(link, true));
            CHECK.is("link(.., 3)", 1, x.link(link, 3));
            CHECK.no("cut, as before", x.cut(link, true));
            CHECK.is("link(.., 3) still", 1, x.link(link, 3));
            CHECK.is("the next one is not", 0, x.link((link + 1) % 6, 3));
            CHECK.yes("not any more", x.cut(link, false));
            CHECK.is("link(.., 3) now", 0, x.link(link, 3));
        }
    }

    private static void cutLosesFramesThatBegin() {
        GatedLinks x = one(none(), 16, 2, 0, 1);
        x.cut(0, true);
        x.tick(1);
        told(x, "lost on the first link", 0, 0, 0, 1, 0, NONE, 0);
        x.cut(0, false);
        x.tick(16);
        told(x, "it goes on", 0, 1, 0, 1, 0, NONE, 0);
        x.cut(1, true);
        x.tick(3);
        told(x, "before it begins on the second", 0, 1, 0, 1, 0, NONE, 0);
        x.tick(1);
        told(x, "lost as it begins there", 0, 0, 0, 2, 0, NONE, 0);
        x.cut(1, false);
        x.tick(12);
        x.cut(5, true);
        x.tick(20);
        told(x, "a cut of another link loses nothing", 0, 1, 1, 2, 0, 6, 0);
    }

    private static void cutLosesFramesOnIt() {
        GatedLinks x = one(new int[] {9, 9}, 8, 1, 0, 1);
        x.tick(17);
        told(x, "from 0, 8 and 16", 0, 3, 0, 0, 0, NONE, 0);
        x.cut(0, true);
        told(x, "those from 16 and 8 are on link 0 or its delay, that from 0 on link 1", 0, 1, 0, 2, 0, NONE, 0);
        x.cut(0, false);
        x.cut(1, true);
        told(x, "that from 0", 0, 0, 0, 3, 0, NONE, 0);
        GatedLinks y = one(new int[] {9, 9}, 8, 1, 0, 1);
        y.tick(17);
        y.cut(1, true);
        y.cut(1, false);
        told(y, "that from 0 alone is on link 1", 0, 2, 0, 1, 0, NONE, 0);
        y.tick(13);
        told(y, "those from 8, 16 and 24 are on their way", 0, 3, 0, 1, 0, NONE, 0);
        y.tick(1);
        told(y, "that from 8 is through at 30", 0, 2, 1, 1, 0, 22, 0);
        y.tick(8);
        told(y, "that from 16 at 38", 0, 2, 2, 1, 0, 22, 0);
    }

    /** Of size 2 with a delay of 3 it begins at 0, is through at 5, and begins on link 1 at 7. */
    private static void cutEdgesOfAFrame() {
        for (int at = 1; at <= 12; at++) {
            GatedLinks x = one(new int[] {3}, 32, 2, 0, 1);
            x.tick(at);
            x.cut(0, true);
            x.cut(0, false);
            CHECK.is("link 0 cut at " + at, at < 5 ? 1 : 0, x.told(0, 2));
            GatedLinks y = one(new int[] {3}, 32, 2, 0, 1);
            y.tick(at);
            y.cut(1, true);
            y.cut(1, false);
            CHECK.is("link 1 cut at " + at, at == 8 ? 1 : 0, y.told(0, 2));
            y.tick(12);
            CHECK.is("and got", at == 8 ? 0 : 1, y.told(0, 1));
        }
        GatedLinks z = one(none(), 32, 2, 0);
        z.tick(2);
        z.cut(0, true);
        z.tick(1);
        told(z, "through at 2 and cut at 2", 0, 0, 1, 0, 0, 2, 0);
    }

    private static void cutTakesTheFrameThatWaited() {
        GatedLinks x = new GatedLinks();
        x.babble(2, 4);
        x.babble(2, 3);
        x.babble(3, 4);
        x.tick(2);
        x.cut(2, true);
        CHECK.is("nothing is on it", NONE, x.link(2, 2));
        CHECK.is("the other waits", 1, x.link(2, 0));
        CHECK.is("another link is busy", 5, x.link(3, 2));
        x.tick(4);
        CHECK.is("nothing is done", 0, x.link(2, 1));
        CHECK.is("nothing begins on it", 1, x.link(2, 0));
        CHECK.is("the other link is done", 1, x.link(3, 1));
        x.cut(2, false);
        x.tick(3);
        CHECK.is("the other is done", 1, x.link(2, 1));
        x.babble(2, 2);
        x.tick(2);
        x.cut(2, true);
        CHECK.is("done at 11, cut at 11", 2, x.link(2, 1));
    }
}
