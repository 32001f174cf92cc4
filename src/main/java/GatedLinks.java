import java.util.NoSuchElementException;

/** Links on which streams of frames go by a schedule that is searched, and other frames in the time that is left. */
public final class GatedLinks {
    public static final int NONE = -1;

    private static final int LINKS = 6;
    private static final int MOST_STREAMS = 5;
    private static final int MOST_HOPS = 3;
    private static final int MOST_WAITING = 4;
    /** A latency is 60 at most and a period 8 at least, so no more frames of a stream are on their way at once. */
    private static final int MOST_FRAMES = 8;
    /** All periods divide it, so what a schedule reserves repeats after so many ticks, a bit of an int for each. */
    private static final int CYCLE = 32;
    private static final int GAP = 2;
    private static final int WAITED = 5;
    private static final int MOST_TRIES = 20000;
    private static final int MOST_TICKS = 200;

    private final int[] delays = new int[LINKS];
    private final Stream[] added = new Stream[MOST_STREAMS];
    private int addedCount;
    private final Search search = new Search();
    private Schedule found;
    private Schedule awaited;
    private Schedule inForce;
    private final Talker[] talkers = new Talker[MOST_STREAMS];
    private final Port[] ports = new Port[LINKS];
    private int time;

    public GatedLinks() {
        for (int i = 0; i < MOST_STREAMS; i++) {
            talkers[i] = new Talker();
        }
        for (int i = 0; i < LINKS; i++) {
            ports[i] = new Port();
        }
    }

    public void delay(int link, int ticks) throws IndexOutOfBoundsException, IllegalArgumentException {
        requireLink(link);
        if (ticks < 0 || ticks > 9) {
            throw new IllegalArgumentException("a delay is 0 .. 9 ticks");
        }
        delays[link] = ticks;
    }

    public int stream(int period, int size, int deadline, int a, int b, int c)
            throws IndexOutOfBoundsException, IllegalArgumentException, UnsupportedOperationException {
        requireLink(a);
        requireLinkOrNone(b);
        requireLinkOrNone(c);
        if (!isPath(a, b, c)) {
            throw new IllegalArgumentException("a path is one to three different links");
        }
        if (!isPeriod(period) || size < 1 || size > 4 || deadline < 1 || deadline > 60) {
            throw new IllegalArgumentException("no such period, size or deadline");
        }
        if (addedCount >= MOST_STREAMS) {
            throw new UnsupportedOperationException("there are five streams");
        }
        added[addedCount] = new Stream(period, size, deadline, pathOf(a, b, c));
        addedCount++;
        return addedCount - 1;
    }

    public void clear() {
        addedCount = 0;
    }

    public int build(int tries) throws IllegalArgumentException {
        if (tries < 0 || tries > MOST_TRIES) {
            throw new IllegalArgumentException("tries are 0 .. 20000");
        }
        PlannedStream[] planned = new PlannedStream[addedCount];
        for (int i = 0; i < addedCount; i++) {
            planned[i] = new PlannedStream(added[i], delays);
        }
        int answer = search.run(planned, tries);
        if (answer == 1) {
            found = new Schedule(planned);
        }
        return answer;
    }

    public int tries() {
        return search.made;
    }

    public int offset(int stream) throws NoSuchElementException, IndexOutOfBoundsException {
        requireFound();
        if (stream < 0 || stream >= found.planned.length) {
            throw new IndexOutOfBoundsException("no such stream in the schedule that was found");
        }
        return found.planned[stream].start;
    }

    public int gate(int link, int t)
            throws IndexOutOfBoundsException, IllegalArgumentException, NoSuchElementException {
        requireLink(link);
        if (t < 0 || t >= CYCLE) {
            throw new IllegalArgumentException("a tick of a gate is 0 .. 31");
        }
        requireFound();
        return found.ownerOf(link, t);
    }

    public void activate() throws NoSuchElementException {
        requireFound();
        awaited = found;
    }

    public int tick(int n) throws IllegalArgumentException {
        if (n < 1 || n > MOST_TICKS) {
            throw new IllegalArgumentException("ticks are 1 .. 200");
        }
        for (int i = 0; i < n; i++) {
            passOneTick();
        }
        return time;
    }

    public void talk(int stream, boolean on, int late) throws IndexOutOfBoundsException, IllegalArgumentException {
        requireInForce(stream);
        if (late < 0 || late > 7) {
            throw new IllegalArgumentException("a talker is 0 .. 7 ticks late");
        }
        talkers[stream].isOn = on;
        talkers[stream].late = late;
    }

    public boolean unblock(int stream) throws IndexOutOfBoundsException {
        requireInForce(stream);
        boolean was = talkers[stream].isBlocked;
        talkers[stream].isBlocked = false;
        return was;
    }

    public boolean cut(int link, boolean on) throws IndexOutOfBoundsException {
        requireLink(link);
        boolean isNew = ports[link].isCut != on;
        ports[link].isCut = on;
        if (on) {
            loseAllOn(link);
        }
        return isNew;
    }

    public int babble(int link, int size)
            throws IndexOutOfBoundsException, IllegalArgumentException, UnsupportedOperationException {
        requireLink(link);
        if (size < 1 || size > 8) {
            throw new IllegalArgumentException("a frame that waits has 1 .. 8 ticks");
        }
        Port port = ports[link];
        if (port.waiting >= MOST_WAITING) {
            throw new UnsupportedOperationException("four frames wait");
        }
        port.append(size);
        return port.waiting;
    }

    public int told(int stream, int what) throws IndexOutOfBoundsException {
        requireInForce(stream);
        Talker talker = talkers[stream];
        switch (what) {
            case 0: return talker.onWay;
            case 1: return talker.got;
            case 2: return talker.lost;
            case 3: return talker.dropped;
            case 4: return talker.latency;
            case 5: return talker.isBlocked ? 1 : 0;
            default: throw new IndexOutOfBoundsException("of a stream 0 .. 5 is told");
        }
    }

    public int link(int link, int what) throws IndexOutOfBoundsException {
        requireLink(link);
        Port port = ports[link];
        switch (what) {
            case 0: return port.waiting;
            case 1: return port.done;
            case 2: return whatIsOn(link);
            case 3: return port.isCut ? 1 : 0;
            default: throw new IndexOutOfBoundsException("of a link 0 .. 3 is told");
        }
    }

    public int streams(int which) throws IndexOutOfBoundsException {
        switch (which) {
            case 0: return addedCount;
            case 1: return streamsOf(found);
            case 2: return streamsOf(inForce);
            case 3: return streamsOf(awaited);
            default: throw new IndexOutOfBoundsException("streams are told of 0 .. 3");
        }
    }

    private static void requireLink(int link) {
        if (!isLink(link)) {
            throw new IndexOutOfBoundsException("no such link");
        }
    }

    private static void requireLinkOrNone(int link) {
        if (link != NONE) {
            requireLink(link);
        }
    }

    private void requireFound() {
        if (found == null) {
            throw new NoSuchElementException("no schedule was found");
        }
    }

    private void requireInForce(int stream) {
        if (stream < 0 || stream >= talking()) {
            throw new IndexOutOfBoundsException("no such stream in force");
        }
    }

    private static boolean isLink(int link) {
        return link >= 0 && link < LINKS;
    }

    private static boolean isPeriod(int period) {
        return period == 8 || period == 16 || period == 32;
    }

    private static boolean isPath(int a, int b, int c) {
        if (b == NONE) {
            return c == NONE;
        }
        return a != b && a != c && b != c;
    }

    private static int[] pathOf(int a, int b, int c) {
        int hops = b == NONE ? 1 : c == NONE ? 2 : MOST_HOPS;
        int[] path = new int[hops];
        path[0] = a;
        if (hops > 1) {
            path[1] = b;
        }
        if (hops > 2) {
            path[2] = c;
        }
        return path;
    }

    private static int streamsOf(Schedule schedule) {
        return schedule == null ? NONE : schedule.planned.length;
    }

    /** How many streams the schedule in force has, 0 without one. */
    private int talking() {
        return inForce == null ? 0 : inForce.planned.length;
    }

    private void passOneTick() {
        if (awaited != null && isTimeToChange()) {
            comeIntoForce();
        }
        if (awaited == null) {
            for (int i = 0; i < talking(); i++) {
                talkers[i].speak(time);
            }
        }
        for (int i = 0; i < talking(); i++) {
            talkers[i].moveFrames(time, ports);
        }
        for (int i = 0; i < LINKS; i++) {
            beginWaiting(i);
        }
        time++;
        for (int i = 0; i < LINKS; i++) {
            ports[i].endTick();
        }
    }

    private boolean isTimeToChange() {
        boolean isTime = (time & (CYCLE - 1)) == 0;
        for (int i = 0; i < talking(); i++) {
            isTime = isTime && talkers[i].onWay == 0;
        }
        for (int i = 0; i < LINKS; i++) {
            isTime = isTime && ports[i].busy == 0;
        }
        return isTime;
    }

    private void comeIntoForce() {
        inForce = awaited;
        awaited = null;
        for (int i = 0; i < talking(); i++) {
            talkers[i].startAnew(inForce.planned[i]);
        }
    }

    private void beginWaiting(int link) {
        Port port = ports[link];
        if (port.canBegin() && (inForce == null || inForce.isFree(link, time, port.sizes[0]))) {
            port.beginFirst();
        }
    }

    private void loseAllOn(int link) {
        for (int i = 0; i < talking(); i++) {
            talkers[i].loseOn(link, time);
        }
        ports[link].busy = 0;
    }

    private int whatIsOn(int link) {
        for (int i = 0; i < talking(); i++) {
            if (talkers[i].hasFrameOn(link, time)) {
                return i;
            }
        }
        return ports[link].busy > 0 ? WAITED : NONE;
    }

    /** A stream as it was added. */
    private static final class Stream {
        final int period;
        final int size;
        final int deadline;
        final int[] path;

        Stream(int period, int size, int deadline, int[] path) {
            this.period = period;
            this.size = size;
            this.deadline = deadline;
            this.path = path;
        }
    }

    /**
     * A stream with the delays of a search and the offset that it got there. Ages are ticks since a frame began on
     * its first link.
     */
    private static final class PlannedStream {
        final int period;
        final int size;
        final int deadline;
        final int[] path;
        /** The age at which a frame begins on each link of the path. */
        final int[] begins;
        /** The age at which it is through that link and its delay. */
        final int[] ends;
        /** The ticks of the cycle that are in its spans on each link of the path, were its offset 0. */
        final int[] spans;
        int start;

        PlannedStream(Stream stream, int[] delays) {
            period = stream.period;
            size = stream.size;
            deadline = stream.deadline;
            path = stream.path;
            begins = new int[path.length];
            ends = new int[path.length];
            spans = new int[path.length];
            int age = 0;
            for (int hop = 0; hop < path.length; hop++) {
                begins[hop] = age;
                ends[hop] = age + size + delays[path[hop]];
                spans[hop] = spansFrom(age, period, size);
                age = ends[hop] + GAP;
            }
        }

        static int spansFrom(int begin, int period, int size) {
            int bits = 0;
            for (int first = 0; first < CYCLE; first += period) {
                for (int tick = -1; tick < size; tick++) {
                    bits |= 1 << ((begin + first + tick) & (CYCLE - 1));
                }
            }
            return bits;
        }

        int latency() {
            return ends[ends.length - 1];
        }

        /** The spans on a link of the path with an offset: later by so many ticks, round the cycle. */
        int spansWith(int hop, int offset) {
            return (spans[hop] << offset) | (spans[hop] >>> ((CYCLE - offset) & (CYCLE - 1)));
        }

        boolean hasSpanAt(int hop, int tick) {
            return ((spansWith(hop, start) >>> (tick & (CYCLE - 1))) & 1) == 1;
        }

        /** Which link of the path a link is, NONE if it is none of them. */
        int hopOn(int link) {
            for (int hop = 0; hop < path.length; hop++) {
                if (path[hop] == link) {
                    return hop;
                }
            }
            return NONE;
        }

        /** All periods are powers of two. */
        boolean beginsAt(int time) {
            return ((time - start) & (period - 1)) == 0;
        }
    }

    /** Looks for offsets with which no spans meet. */
    private static final class Search {
        int made;
        private final int[] next = new int[MOST_STREAMS + 1];
        /** For each stream the ticks of every link that the streams before it take. */
        private final int[][] taken = new int[MOST_STREAMS + 1][LINKS];

        /** 1 when all have got their start, 0 when they can't, NONE when another try would be too many. */
        int run(PlannedStream[] planned, int allowed) {
            made = 0;
            next[0] = 0;
            int at = 0;
            // A step is a try, or goes back one stream, and as many steps back as tries and one more can't be.
            for (int step = 0; step < 2 * MOST_TRIES + 2 && at >= 0 && at < planned.length; step++) {
                if (next[at] >= planned[at].period) {
                    at--;
                } else if (made >= allowed) {
                    return NONE;
                } else if (fits(planned[at], at)) {
                    at++;
                    next[at] = 0;
                }
            }
            return at < 0 ? 0 : 1;
        }

        /** A try with the next offset; spans of one stream never meet, as no link is twice in a path. */
        private boolean fits(PlannedStream stream, int at) {
            int offset = next[at];
            next[at]++;
            made++;
            if (stream.latency() > stream.deadline || isTaken(stream, offset, taken[at])) {
                return false;
            }
            stream.start = offset;
            System.arraycopy(taken[at], 0, taken[at + 1], 0, LINKS);
            for (int hop = 0; hop < stream.path.length; hop++) {
                taken[at + 1][stream.path[hop]] |= stream.spansWith(hop, offset);
            }
            return true;
        }

        private static boolean isTaken(PlannedStream stream, int offset, int[] before) {
            for (int hop = 0; hop < stream.path.length; hop++) {
                if ((before[stream.path[hop]] & stream.spansWith(hop, offset)) != 0) {
                    return true;
                }
            }
            return false;
        }
    }

    /** What a search found; nothing of it changes later. */
    private static final class Schedule {
        final PlannedStream[] planned;

        Schedule(PlannedStream[] planned) {
            this.planned = planned;
        }

        /** The stream in whose span a tick of a link is, NONE if it is free. */
        int ownerOf(int link, int tick) {
            for (int i = 0; i < planned.length; i++) {
                int hop = planned[i].hopOn(link);
                if (hop != NONE && planned[i].hasSpanAt(hop, tick)) {
                    return i;
                }
            }
            return NONE;
        }

        boolean isFree(int link, int from, int ticks) {
            for (int i = 0; i < ticks; i++) {
                if (ownerOf(link, from + i) != NONE) {
                    return false;
                }
            }
            return true;
        }
    }

    /** A stream of the schedule in force: who talks on it, its frames, and what is told of them. */
    private static final class Talker {
        private PlannedStream planned;
        boolean isOn;
        int late;
        boolean isBlocked;
        int onWay;
        int got;
        int lost;
        int dropped;
        int latency;
        /** When the frames that are on their way began. */
        private final int[] starts = new int[MOST_FRAMES];

        void startAnew(PlannedStream stream) {
            planned = stream;
            isOn = true;
            late = 0;
            isBlocked = false;
            onWay = 0;
            got = 0;
            lost = 0;
            dropped = 0;
            latency = NONE;
        }

        void speak(int time) {
            if (!isOn || time - late < 0 || !planned.beginsAt(time - late)) {
                return;
            }
            if (late > 0 || isBlocked) {
                dropped++;
                isBlocked = true;
            } else if (onWay < MOST_FRAMES) {
                starts[onWay] = time;
                onWay++;
            }
        }

        void moveFrames(int time, Port[] ports) {
            int kept = 0;
            for (int i = 0; i < onWay; i++) {
                int age = time - starts[i];
                if (beginsOnCut(age, ports)) {
                    lost++;
                } else if (age == planned.latency()) {
                    got++;
                    latency = age;
                } else {
                    starts[kept] = starts[i];
                    kept++;
                }
            }
            onWay = kept;
        }

        private boolean beginsOnCut(int age, Port[] ports) {
            for (int hop = 0; hop < planned.path.length; hop++) {
                if (planned.begins[hop] == age && ports[planned.path[hop]].isCut) {
                    return true;
                }
            }
            return false;
        }

        /** Frames that begin at this very time are left to the tick: it looks at the link as it is then. */
        void loseOn(int link, int time) {
            int hop = planned.hopOn(link);
            if (hop == NONE) {
                return;
            }
            int kept = 0;
            for (int i = 0; i < onWay; i++) {
                int age = time - starts[i];
                if (age > planned.begins[hop] && age < planned.ends[hop]) {
                    lost++;
                } else {
                    starts[kept] = starts[i];
                    kept++;
                }
            }
            onWay = kept;
        }

        boolean hasFrameOn(int link, int time) {
            int hop = planned.hopOn(link);
            if (hop == NONE) {
                return false;
            }
            for (int i = 0; i < onWay; i++) {
                int there = time - starts[i] - planned.begins[hop];
                if (there > 0 && there < planned.size) {
                    return true;
                }
            }
            return false;
        }
    }

    /** A link's end: whether it is cut, and its frames that wait. */
    private static final class Port {
        boolean isCut;
        int waiting;
        final int[] sizes = new int[MOST_WAITING];
        /** For how many ticks more it is busy with a frame that waited. */
        int busy;
        int done;

        void append(int size) {
            if (waiting < MOST_WAITING) {
                sizes[waiting] = size;
                waiting++;
            }
        }

        boolean canBegin() {
            return busy == 0 && !isCut && waiting > 0;
        }

        void beginFirst() {
            busy = sizes[0];
            for (int i = 1; i < waiting; i++) {
                sizes[i - 1] = sizes[i];
            }
            waiting--;
        }

        void endTick() {
            if (busy > 0) {
                busy--;
                if (busy == 0) {
                    done++;
                }
            }
        }
    }
}
