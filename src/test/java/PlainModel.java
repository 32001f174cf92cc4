import java.util.ArrayList;
import java.util.List;
import java.util.NoSuchElementException;

/**
 * The document once more, slowly: no bits, no masks, no ages. It is what GatedLinks is held against on long runs of
 * calls, so it shares no thought with it: it looks through frames one by one at times of the clock.
 */
final class PlainModel implements Plant {
    /** A stream of a plan: what it wishes, its offset, and the delays when the plan was made. */
    private static final class Flow {
        int period;
        int size;
        int deadline;
        List<Integer> path = new ArrayList<>();
        int offset;
        int[] delays;

        Flow copy() {
            Flow copy = new Flow();
            copy.period = period;
            copy.size = size;
            copy.deadline = deadline;
            copy.path = path;
            copy.offset = offset;
            copy.delays = delays;
            return copy;
        }

        /** When a frame begins on a link of the path, if it begins on the first at a time. */
        int onLink(int place, int time) {
            if (place == 0) {
                return time;
            }
            return onLink(place - 1, time) + size + delays[path.get(place - 1)] + 2;
        }

        int through(int place, int time) {
            return onLink(place, time) + size + delays[path.get(place)];
        }

        int latency() {
            return through(path.size() - 1, 0);
        }

        boolean hasSpanAt(int link, int tick) {
            int place = path.indexOf(link);
            if (place < 0) {
                return false;
            }
            int begin = onLink(place, offset);
            return Math.floorMod(tick - (begin - 1), period) < size + 1;
        }
    }

    private static final class Frame {
        Flow flow;
        int number;
        int began;
    }

    private static final class Told {
        boolean on = true;
        int late;
        boolean blocked;
        int got;
        int lost;
        int dropped;
        int latency = -1;
    }

    private static final class Line {
        int delay;
        boolean cut;
        List<Integer> waiting = new ArrayList<>();
        int done;
        int busyTill = -1;
    }

    private final List<Flow> added = new ArrayList<>();
    private final Line[] lines = new Line[6];
    private List<Flow> found;
    private List<Flow> awaited;
    private List<Flow> inForce;
    private List<Told> told = new ArrayList<>();
    private List<Frame> frames = new ArrayList<>();
    private int tries;
    private int time;

    PlainModel() {
        for (int i = 0; i < 6; i++) {
            lines[i] = new Line();
        }
    }

    private Line line(int link) {
        if (link < 0 || link > 5) {
            throw new IndexOutOfBoundsException();
        }
        return lines[link];
    }

    private static void within(int value, int least, int most) {
        if (value < least || value > most) {
            throw new IllegalArgumentException();
        }
    }

    private Told talker(int stream) {
        if (inForce == null || stream < 0 || stream >= inForce.size()) {
            throw new IndexOutOfBoundsException();
        }
        return told.get(stream);
    }

    @Override
    public void delay(int link, int ticks) {
        Line line = line(link);
        within(ticks, 0, 9);
        line.delay = ticks;
    }

    @Override
    public int stream(int period, int size, int deadline, int a, int b, int c) {
        line(a);
        if (b != -1) {
            line(b);
        }
        if (c != -1) {
            line(c);
        }
        Flow flow = new Flow();
        flow.path.add(a);
        for (int link : new int[] {b, c}) {
            if (flow.path.contains(link) || b == -1 && link != -1) {
                throw new IllegalArgumentException();
            }
            if (link != -1) {
                flow.path.add(link);
            }
        }
        if (!List.of(8, 16, 32).contains(period)) {
            throw new IllegalArgumentException();
        }
        within(size, 1, 4);
        within(deadline, 1, 60);
        if (added.size() == 5) {
            throw new UnsupportedOperationException();
        }
        flow.period = period;
        flow.size = size;
        flow.deadline = deadline;
        added.add(flow);
        return added.size() - 1;
    }

    @Override
    public void clear() {
        added.clear();
    }

    /** The search as the document tells it, a call for each stream. */
    private static final class Ended extends RuntimeException {
        private static final long serialVersionUID = 1L;
    }

    @Override
    public int build(int most) {
        within(most, 0, 20000);
        int[] delays = new int[6];
        for (int i = 0; i < 6; i++) {
            delays[i] = lines[i].delay;
        }
        List<Flow> plan = new ArrayList<>();
        for (Flow flow : added) {
            Flow copy = flow.copy();
            copy.delays = delays;
            plan.add(copy);
        }
        tries = 0;
        try {
            if (!place(plan, 0, most)) {
                return 0;
            }
        } catch (Ended e) {
            return -1;
        }
        found = plan;
        return 1;
    }

    private boolean place(List<Flow> plan, int at, int most) {
        if (at == plan.size()) {
            return true;
        }
        Flow flow = plan.get(at);
        for (int offset = 0; offset < flow.period; offset++) {
            if (tries == most) {
                throw new Ended();
            }
            tries++;
            flow.offset = offset;
            if (!meets(plan, at) && flow.latency() <= flow.deadline && place(plan, at + 1, most)) {
                return true;
            }
        }
        return false;
    }

    private static boolean meets(List<Flow> plan, int at) {
        Flow flow = plan.get(at);
        for (int link : flow.path) {
            for (int other = 0; other < at; other++) {
                for (int tick = 0; tick < 32; tick++) {
                    if (flow.hasSpanAt(link, tick) && plan.get(other).hasSpanAt(link, tick)) {
                        return true;
                    }
                }
            }
        }
        return false;
    }

    @Override
    public int tries() {
        return tries;
    }

    @Override
    public int offset(int stream) {
        if (found == null) {
            throw new NoSuchElementException();
        }
        if (stream < 0 || stream >= found.size()) {
            throw new IndexOutOfBoundsException();
        }
        return found.get(stream).offset;
    }

    @Override
    public int gate(int link, int t) {
        line(link);
        within(t, 0, 31);
        if (found == null) {
            throw new NoSuchElementException();
        }
        return holder(found, link, t);
    }

    private static int holder(List<Flow> plan, int link, int t) {
        int holder = -1;
        for (int i = 0; i < plan.size(); i++) {
            if (plan.get(i).hasSpanAt(link, t)) {
                holder = i;
            }
        }
        return holder;
    }

    @Override
    public void activate() {
        if (found == null) {
            throw new NoSuchElementException();
        }
        awaited = found;
    }

    @Override
    public int tick(int n) {
        within(n, 1, 200);
        for (int i = 0; i < n; i++) {
            change();
            talkAll();
            frameByFrame();
            waitingOnes();
            time++;
            for (Line line : lines) {
                if (line.busyTill == time) {
                    line.done++;
                    line.busyTill = -1;
                }
            }
        }
        return time;
    }

    private void change() {
        boolean busy = !frames.isEmpty();
        for (Line line : lines) {
            busy |= line.busyTill >= 0;
        }
        if (awaited == null || busy || time % 32 != 0) {
            return;
        }
        inForce = awaited;
        awaited = null;
        told = new ArrayList<>();
        for (int i = 0; i < inForce.size(); i++) {
            told.add(new Told());
        }
    }

    private void talkAll() {
        if (awaited != null || inForce == null) {
            return;
        }
        for (int i = 0; i < inForce.size(); i++) {
            Told one = told.get(i);
            Flow flow = inForce.get(i);
            int due = time - one.late;
            if (one.on && due >= flow.offset % flow.period && (due - flow.offset) % flow.period == 0) {
                if (one.late != 0 || one.blocked) {
                    one.dropped++;
                    one.blocked = true;
                } else {
                    Frame frame = new Frame();
                    frame.flow = flow;
                    frame.number = i;
                    frame.began = time;
                    frames.add(frame);
                }
            }
        }
    }

    private void frameByFrame() {
        List<Frame> left = new ArrayList<>();
        for (Frame frame : frames) {
            Flow flow = frame.flow;
            boolean stopped = false;
            for (int place = 0; place < flow.path.size(); place++) {
                stopped |= flow.onLink(place, frame.began) == time && lines[flow.path.get(place)].cut;
            }
            if (stopped) {
                told.get(frame.number).lost++;
            } else if (flow.through(flow.path.size() - 1, frame.began) == time) {
                told.get(frame.number).got++;
                told.get(frame.number).latency = time - frame.began;
            } else {
                left.add(frame);
            }
        }
        frames = left;
    }

    private void waitingOnes() {
        for (int link = 0; link < 6; link++) {
            Line line = lines[link];
            if (line.busyTill >= 0 || line.cut || line.waiting.isEmpty()) {
                continue;
            }
            boolean free = true;
            for (int t = time; t < time + line.waiting.get(0); t++) {
                free &= inForce == null || holder(inForce, link, t) == -1;
            }
            if (free) {
                line.busyTill = time + line.waiting.remove(0);
            }
        }
    }

    @Override
    public void talk(int stream, boolean on, int late) {
        Told one = talker(stream);
        within(late, 0, 7);
        one.on = on;
        one.late = late;
    }

    @Override
    public boolean unblock(int stream) {
        Told one = talker(stream);
        boolean was = one.blocked;
        one.blocked = false;
        return was;
    }

    @Override
    public boolean cut(int link, boolean on) {
        Line line = line(link);
        boolean isNew = line.cut != on;
        line.cut = on;
        if (on && isNew) {
            line.busyTill = -1;
            List<Frame> left = new ArrayList<>();
            for (Frame frame : frames) {
                int place = frame.flow.path.indexOf(link);
                if (place >= 0 && frame.flow.onLink(place, frame.began) < time
                        && frame.flow.through(place, frame.began) > time) {
                    told.get(frame.number).lost++;
                } else {
                    left.add(frame);
                }
            }
            frames = left;
        }
        return isNew;
    }

    @Override
    public int babble(int link, int size) {
        Line line = line(link);
        within(size, 1, 8);
        if (line.waiting.size() == 4) {
            throw new UnsupportedOperationException();
        }
        line.waiting.add(size);
        return line.waiting.size();
    }

    @Override
    public int told(int stream, int what) {
        Told one = talker(stream);
        int onWay = 0;
        for (Frame frame : frames) {
            onWay += frame.number == stream ? 1 : 0;
        }
        int[] answers = {onWay, one.got, one.lost, one.dropped, one.latency, one.blocked ? 1 : 0};
        if (what < 0 || what > 5) {
            throw new IndexOutOfBoundsException();
        }
        return answers[what];
    }

    @Override
    public int link(int link, int what) {
        Line line = line(link);
        if (what < 0 || what > 3) {
            throw new IndexOutOfBoundsException();
        }
        int on = line.busyTill >= 0 ? 5 : -1;
        for (Frame frame : frames) {
            int place = frame.flow.path.indexOf(link);
            if (place >= 0) {
                int begin = frame.flow.onLink(place, frame.began);
                on = begin < time && time <= begin + frame.flow.size - 1 ? frame.number : on;
            }
        }
        return new int[] {line.waiting.size(), line.done, on, line.cut ? 1 : 0}[what];
    }

    @Override
    public int streams(int which) {
        if (which < 0 || which > 3) {
            throw new IndexOutOfBoundsException();
        }
        int[] answers = {added.size(), found == null ? -1 : found.size(), inForce == null ? -1 : inForce.size(),
            awaited == null ? -1 : awaited.size()};
        return answers[which];
    }
}
