import com.sun.management.ThreadMXBean;
import java.lang.management.ManagementFactory;

/** 'An object is used for at most 512 calls': the last of them is answered as the first, and all find room. */
public final class LongRunTest {
    private static final int NONE = GatedLinks.NONE;
    private static final int CALLS = 512;

    private static final Check CHECK = new Check("LongRunTest");

    public static void main(String[] args) {
        ticksTillTheLastCall();
        buildsTillTheLastCall();
        streamsTillTheLastCall();
        changesTillTheLastCall();
        framesThatWaitTillTheLastCall();
        roomOfTheDearestCalls();
        CHECK.end();
    }

    /** Three calls find and activate it, all others are ticks, and its frames begin at 0, 8, .. */
    private static void ticksTillTheLastCall() {
        CHECK.promise("512 calls: tick");
        GatedLinks x = Sample.awaited(Sample.NO_DELAYS, Sample.flow(8, 1, 60, 0));
        for (int call = 3; call < CALLS - 1; call++) {
            CHECK.is("time", 200 * (call - 2), x.tick(200));
        }
        CHECK.is("the last call: got at 1, 9, ..", 25 * (CALLS - 4), x.told(0, 1));
    }

    private static void buildsTillTheLastCall() {
        CHECK.promise("512 calls: build");
        GatedLinks x = Sample.with(Sample.NO_DELAYS, Sample.flow(32, 4, 60, 0), Sample.flow(32, 4, 60, 0),
            Sample.flow(32, 4, 60, 0), Sample.flow(8, 4, 60, 0), Sample.flow(8, 4, 60, 0));
        for (int call = 5; call < CALLS; call++) {
            CHECK.is("build", NONE, x.build(20000));
        }
        CHECK.is("tries", 20000, x.tries());
    }

    private static void streamsTillTheLastCall() {
        CHECK.promise("512 calls: stream and clear");
        GatedLinks x = new GatedLinks();
        for (int call = 0; call < CALLS - 2; call += 2) {
            CHECK.is("stream", 0, x.stream(8, 1, 60, call % 6, NONE, NONE));
            x.clear();
        }
        CHECK.is("the last one", 0, x.stream(8, 1, 60, 0, 1, 2));
        CHECK.is("found", 1, x.build(1));
    }

    /** One schedule after the other comes into force, and each begins anew. */
    private static void changesTillTheLastCall() {
        CHECK.promise("512 calls: activate");
        GatedLinks x = Sample.with(Sample.NO_DELAYS, Sample.flow(32, 1, 60, 0));
        for (int call = 1; call < CALLS - 3; call += 4) {
            CHECK.is("build", 1, x.build(1));
            x.activate();
            x.tick(32);
            CHECK.is("got since it is in force", 1, x.told(0, 1));
        }
        CHECK.is("none is awaited", NONE, x.streams(3));
    }

    private static void framesThatWaitTillTheLastCall() {
        CHECK.promise("512 calls: babble");
        GatedLinks x = new GatedLinks();
        int done = 0;
        for (int call = 0; call < CALLS - 2; call += 2) {
            CHECK.is("one waits", 1, x.babble(call % 6, 8));
            x.tick(8);
            done += call % 6 == 0 ? 1 : 0;
        }
        CHECK.is("done on link 0", done, x.link(0, 1));
        CHECK.is("none waits", 0, x.link(0, 0));
    }

    /** The room has 7.3 million elements: with 8 bytes for each of a tenth of them the dearest calls must do. */
    private static void roomOfTheDearestCalls() {
        CHECK.promise("512 calls: what they make");
        if (!(ManagementFactory.getThreadMXBean() instanceof ThreadMXBean)) {
            return;
        }
        ThreadMXBean room = (ThreadMXBean) ManagementFactory.getThreadMXBean();
        long thread = Thread.currentThread().getId();
        int[][] five = new int[5][];
        for (int i = 0; i < 5; i++) {
            five[i] = Sample.flow(32, 1, 60, i, i + 1, (i + 2) % 6);
        }
        long before = room.getThreadAllocatedBytes(thread);
        GatedLinks x = Sample.awaited(Sample.NO_DELAYS, five);
        for (int call = 7; call < CALLS; call += 2) {
            x.build(20000);
            x.tick(200);
        }
        long bytes = room.getThreadAllocatedBytes(thread) - before;
        CHECK.yes("little is made by 512 calls, not " + bytes, bytes < 8L * 730_000);
    }
}
