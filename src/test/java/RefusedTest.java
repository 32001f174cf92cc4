import java.util.ArrayList;
import java.util.List;
import java.util.NoSuchElementException;
import java.util.function.Consumer;
import java.util.function.IntSupplier;

/**
 * A call that throws changes nothing: in each of some states each call that is refused there is made, and from then on
 * the object answers all that can be asked as a twin does that did not get that call.
 */
public final class RefusedTest {
    private static final int NONE = GatedLinks.NONE;
    private static final Class<IndexOutOfBoundsException> INDEX = IndexOutOfBoundsException.class;
    private static final Class<IllegalArgumentException> ARGUMENT = IllegalArgumentException.class;
    private static final Class<UnsupportedOperationException> FULL = UnsupportedOperationException.class;
    private static final Class<NoSuchElementException> ELEMENT = NoSuchElementException.class;
    private static final String[] STATES = {"new", "not built", "a search that ended", "a search that found none",
        "found", "awaited", "in force", "in force, another one awaited", "one of no streams in force"};

    private static final Check CHECK = new Check("RefusedTest");

    private record Refused(String call, Class<? extends RuntimeException> due, Consumer<GatedLinks> act) {
    }

    public static void main(String[] args) {
        for (int state = 0; state < STATES.length; state++) {
            List<Refused> calls = allRefused(inState(state));
            GatedLinks twin = inState(state);
            String due = everything(twin) + future(twin);
            for (Refused one : calls) {
                CHECK.promise("a call that throws changes nothing, " + STATES[state]);
                GatedLinks x = inState(state);
                CHECK.fails(one.call(), one.due(), () -> one.act().accept(x));
                CHECK.same("all behind " + one.call(), due, everything(x) + future(x));
            }
            CHECK.promise("calls that are refused, " + STATES[state]);
            CHECK.yes("many", calls.size() > 70);
            oneAfterTheOther(state, calls, due);
        }
        CHECK.end();
    }

    private static void oneAfterTheOther(int state, List<Refused> calls, String due) {
        GatedLinks x = inState(state);
        for (Refused one : calls) {
            CHECK.fails(one.call() + " behind others", one.due(), () -> one.act().accept(x));
        }
        CHECK.same("all behind all of them", due, everything(x) + future(x));
    }

    private static GatedLinks inState(int state) {
        GatedLinks x = new GatedLinks();
        switch (state) {
            case 0:
                break;
            case 1:
                x.delay(0, 3);
                Sample.add(x, Sample.flow(8, 1, 60, 0, 1));
                break;
            case 2:
                clash(x);
                x.build(5);
                break;
            case 3:
                clash(x);
                x.build(72);
                break;
            case 4:
                three(x);
                x.tick(5);
                break;
            case 5:
                three(x);
                x.tick(5);
                x.activate();
                x.clear();
                break;
            case 6:
                lively(x);
                break;
            case 7:
                lively(x);
                x.activate();
                x.clear();
                x.build(0);
                break;
            default:
                x.build(0);
                x.activate();
                x.tick(3);
                break;
        }
        return x;
    }

    private static void clash(GatedLinks x) {
        Sample.add(x, Sample.flow(8, 4, 60, 0));
        Sample.add(x, Sample.flow(8, 3, 60, 0));
    }

    private static void three(GatedLinks x) {
        x.delay(0, 9);
        x.delay(1, 2);
        Sample.add(x, Sample.flow(8, 1, 60, 0, 1));
        Sample.add(x, Sample.flow(8, 1, 60, 0));
        Sample.add(x, Sample.flow(16, 2, 60, 1, 0, 2));
        x.build(2000);
    }

    /** Frames on their way, got, lost and dropped, one that is off, one blocked; busy, full and cut links; five. */
    private static void lively(GatedLinks x) {
        three(x);
        x.activate();
        x.tick(26);
        x.talk(1, true, 5);
        x.talk(2, false, 0);
        x.tick(6);
        x.cut(1, true);
        x.cut(1, false);
        x.cut(5, true);
        x.delay(0, 1);
        for (int i = 0; i < 4; i++) {
            x.babble(3, 8);
        }
        x.tick(2);
        x.babble(3, 7);
        x.babble(5, 1);
        Sample.add(x, Sample.flow(8, 1, 60, 3));
        Sample.add(x, Sample.flow(8, 1, 60, 3));
    }

    private static List<Refused> allRefused(GatedLinks x) {
        List<Refused> calls = new ArrayList<>();
        refusedLinks(calls);
        refusedStreams(calls, x.streams(0));
        refusedOfFound(calls, x.streams(1));
        refusedOfForce(calls, x.streams(2));
        refusedValues(calls);
        for (int link = 0; link < 6; link++) {
            if (x.link(link, 0) == 4) {
                refusedOfFull(calls, link);
            }
        }
        return calls;
    }

    private static void refusedLinks(List<Refused> calls) {
        for (int no : new int[] {-1, 6, Integer.MIN_VALUE, Integer.MAX_VALUE}) {
            add(calls, "delay(" + no + ", 5)", INDEX, x -> x.delay(no, 5));
            add(calls, "delay(" + no + ", 10)", INDEX, x -> x.delay(no, 10));
            add(calls, "gate(" + no + ", 0)", INDEX, x -> x.gate(no, 0));
            add(calls, "gate(" + no + ", 32)", INDEX, x -> x.gate(no, 32));
            add(calls, "cut(" + no + ", true)", INDEX, x -> x.cut(no, true));
            add(calls, "cut(" + no + ", false)", INDEX, x -> x.cut(no, false));
            add(calls, "babble(" + no + ", 1)", INDEX, x -> x.babble(no, 1));
            add(calls, "babble(" + no + ", 9)", INDEX, x -> x.babble(no, 9));
            add(calls, "link(" + no + ", 0)", INDEX, x -> x.link(no, 0));
            add(calls, "link(" + no + ", 4)", INDEX, x -> x.link(no, 4));
        }
    }

    private static void refusedStreams(List<Refused> calls, int added) {
        for (int no : new int[] {-2, 6}) {
            add(calls, "stream, a = " + no, INDEX, x -> x.stream(8, 1, 60, no, NONE, NONE));
            add(calls, "stream, b = " + no, INDEX, x -> x.stream(8, 1, 60, 3, no, NONE));
            add(calls, "stream, c = " + no, INDEX, x -> x.stream(8, 1, 60, 3, 4, no));
            add(calls, "stream, a = " + no + ", period 7", INDEX, x -> x.stream(7, 1, 60, no, NONE, NONE));
        }
        add(calls, "stream, a is NONE", INDEX, x -> x.stream(8, 1, 60, NONE, NONE, NONE));
        add(calls, "stream, a is b", ARGUMENT, x -> x.stream(8, 1, 60, 3, 3, NONE));
        add(calls, "stream, a is c", ARGUMENT, x -> x.stream(8, 1, 60, 3, 4, 3));
        add(calls, "stream, b is c", ARGUMENT, x -> x.stream(8, 1, 60, 3, 4, 4));
        add(calls, "stream, c without b", ARGUMENT, x -> x.stream(8, 1, 60, 3, NONE, 4));
        add(calls, "stream, period 12", ARGUMENT, x -> x.stream(12, 1, 60, 3, NONE, NONE));
        add(calls, "stream, size 0", ARGUMENT, x -> x.stream(8, 0, 60, 3, NONE, NONE));
        add(calls, "stream, size 5", ARGUMENT, x -> x.stream(8, 5, 60, 3, NONE, NONE));
        add(calls, "stream, deadline 0", ARGUMENT, x -> x.stream(8, 1, 0, 3, NONE, NONE));
        add(calls, "stream, deadline 61", ARGUMENT, x -> x.stream(8, 1, 61, 3, NONE, NONE));
        if (added == 5) {
            add(calls, "stream, a sixth", FULL, x -> x.stream(8, 1, 60, 3, NONE, NONE));
        }
    }

    private static void refusedOfFound(List<Refused> calls, int found) {
        Class<? extends RuntimeException> due = found == NONE ? ELEMENT : INDEX;
        for (int no : new int[] {-1, Math.max(found, 0), 5, Integer.MIN_VALUE, Integer.MAX_VALUE}) {
            add(calls, "offset(" + no + ")", due, x -> x.offset(no));
        }
        if (found == NONE) {
            add(calls, "gate(0, 0)", ELEMENT, x -> x.gate(0, 0));
            add(calls, "gate(5, 31)", ELEMENT, x -> x.gate(5, 31));
            add(calls, "activate()", ELEMENT, GatedLinks::activate);
        }
    }

    private static void refusedOfForce(List<Refused> calls, int inForce) {
        for (int no : new int[] {-1, Math.max(inForce, 0), 5, Integer.MIN_VALUE, Integer.MAX_VALUE}) {
            add(calls, "talk(" + no + ", false, 3)", INDEX, x -> x.talk(no, false, 3));
            add(calls, "talk(" + no + ", true, 8)", INDEX, x -> x.talk(no, true, 8));
            add(calls, "unblock(" + no + ")", INDEX, x -> x.unblock(no));
            add(calls, "told(" + no + ", 0)", INDEX, x -> x.told(no, 0));
            add(calls, "told(" + no + ", 6)", INDEX, x -> x.told(no, 6));
        }
        for (int stream = 0; stream < inForce; stream++) {
            int of = stream;
            for (int late : new int[] {-1, 8, Integer.MIN_VALUE, Integer.MAX_VALUE}) {
                add(calls, "talk(" + of + ", false, " + late + ")", ARGUMENT, x -> x.talk(of, false, late));
                add(calls, "talk(" + of + ", true, " + late + ")", ARGUMENT, x -> x.talk(of, true, late));
            }
        }
        add(calls, "told(0, -1)", INDEX, x -> x.told(0, -1));
        add(calls, "told(0, 6)", INDEX, x -> x.told(0, 6));
    }

    private static void refusedValues(List<Refused> calls) {
        for (int no : new int[] {-1, 10, Integer.MIN_VALUE, Integer.MAX_VALUE}) {
            add(calls, "delay(0, " + no + ")", ARGUMENT, x -> x.delay(0, no));
        }
        for (int no : new int[] {-1, 20001, Integer.MIN_VALUE, Integer.MAX_VALUE}) {
            add(calls, "build(" + no + ")", ARGUMENT, x -> x.build(no));
        }
        for (int no : new int[] {-1, 32, Integer.MIN_VALUE, Integer.MAX_VALUE}) {
            add(calls, "gate(0, " + no + ")", ARGUMENT, x -> x.gate(0, no));
        }
        for (int no : new int[] {0, -1, 201, Integer.MIN_VALUE, Integer.MAX_VALUE}) {
            add(calls, "tick(" + no + ")", ARGUMENT, x -> x.tick(no));
        }
        for (int no : new int[] {0, -1, 9, Integer.MIN_VALUE, Integer.MAX_VALUE}) {
            add(calls, "babble(3, " + no + ")", ARGUMENT, x -> x.babble(3, no));
        }
        for (int no : new int[] {-1, 4, Integer.MIN_VALUE, Integer.MAX_VALUE}) {
            add(calls, "link(0, " + no + ")", INDEX, x -> x.link(0, no));
            add(calls, "streams(" + no + ")", INDEX, x -> x.streams(no));
        }
    }

    private static void refusedOfFull(List<Refused> calls, int link) {
        add(calls, "babble(" + link + ", 1)", FULL, x -> x.babble(link, 1));
        add(calls, "babble(" + link + ", 8)", FULL, x -> x.babble(link, 8));
        add(calls, "babble(" + link + ", 9), full", ARGUMENT, x -> x.babble(link, 9));
    }

    private static void add(List<Refused> calls, String call, Class<? extends RuntimeException> due,
            Consumer<GatedLinks> act) {
        calls.add(new Refused(call, due, act));
    }

    /** All that can be asked without a change. */
    private static String everything(GatedLinks x) {
        StringBuilder all = new StringBuilder("\ntries " + x.tries() + ", streams");
        for (int which = 0; which < 4; which++) {
            all.append(' ').append(x.streams(which));
        }
        for (int stream = 0; stream < 5; stream++) {
            int of = stream;
            all.append(", stream ").append(stream).append(": ").append(answer(() -> x.offset(of)));
            for (int what = 0; what < 6; what++) {
                int asked = what;
                all.append(' ').append(answer(() -> x.told(of, asked)));
            }
        }
        for (int link = 0; link < 6; link++) {
            all.append(", link ").append(link).append(':');
            for (int what = 0; what < 4; what++) {
                all.append(' ').append(x.link(link, what));
            }
            for (int t = 0; t < 32 && x.streams(1) != NONE; t++) {
                all.append(' ').append(x.gate(link, t));
            }
        }
        return all.toString();
    }

    /** What comes of it: the talkers' next frames, the frames that wait, the next stream, the next search. */
    private static String future(GatedLinks x) {
        StringBuilder all = new StringBuilder();
        for (int ticks : new int[] {1, 1, 6, 30, 40}) {
            all.append("\ntick ").append(x.tick(ticks)).append(everything(x));
        }
        all.append("\nstream ").append(answer(() -> x.stream(16, 2, 60, 2, 0, NONE)));
        all.append("\nbuild ").append(x.build(1000)).append(everything(x));
        all.append("\nactivate ").append(answer(() -> {
            x.activate();
            return 0;
        }));
        all.append("\ntick ").append(x.tick(50)).append(everything(x));
        return all.toString();
    }

    private static String answer(IntSupplier call) {
        try {
            return String.valueOf(call.getAsInt());
        } catch (RuntimeException e) {
            return e.getClass().getSimpleName();
        }
    }
}
