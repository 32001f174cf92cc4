import java.util.ArrayList;
import java.util.List;

/** All promises at once: long runs of made-up calls, each answered by GatedLinks as by PlainModel. */
public final class ModelTest {
    private static final int RUNS = 300;
    private static final int CALLS = 512;
    /** What no call may be given without an exception that is due. */
    private static final int[] WILD = {-1, -2, 5, 6, 8, 9, 10, 31, 32, 33, 61, 200, 201, 20000, 20001,
        Integer.MAX_VALUE, Integer.MIN_VALUE};

    private static final Check CHECK = new Check("ModelTest");
    /** The same numbers in every run of the test. */
    private static long seed;

    public static void main(String[] args) {
        for (int run = 0; run < RUNS; run++) {
            CHECK.promise("run " + run);
            seed = run * 7919L + 17;
            if (!oneRun()) {
                break;
            }
        }
        CHECK.end();
    }

    private static int below(int bound) {
        seed = seed * 6364136223846793005L + 1442695040888963407L;
        return (int) ((seed >>> 33) % bound);
    }

    private static boolean oneRun() {
        Plant real = new RealPlant();
        Plant model = new PlainModel();
        List<String> past = new ArrayList<>();
        boolean isLike = true;
        int calls = 0;
        while (calls < CALLS && isLike) {
            int[] call = nextCall();
            String due = answer(model, call);
            String got = answer(real, call);
            past.add(text(call) + " -> " + due);
            isLike = due.equals(got);
            CHECK.same(text(call), due, got);
            calls++;
            if (isLike && below(8) == 0) {
                isLike = compareAll(real, model);
            }
        }
        isLike = isLike && compareAll(real, model);
        if (!isLike) {
            System.out.println(String.join("\n", past));
        }
        return isLike;
    }

    /** Whatever can be asked without a change. */
    private static boolean compareAll(Plant real, Plant model) {
        StringBuilder due = new StringBuilder();
        StringBuilder got = new StringBuilder();
        for (int kind : new int[] {4, 5, 6, 13, 14, 15}) {
            for (int a = -1; a < 7; a++) {
                for (int b = -1; b < (kind == 6 ? 33 : 7); b++) {
                    int[] call = {kind, a, b, 0, 0, 0, 0};
                    due.append(answer(model, call)).append(' ');
                    got.append(answer(real, call)).append(' ');
                }
            }
        }
        CHECK.same("all that is told", due.toString(), got.toString());
        return due.toString().equals(got.toString());
    }

    /** A kind of call, and six arguments, of which it takes the first ones. */
    private static int[] nextCall() {
        int[] often = {0, 1, 1, 1, 1, 2, 3, 3, 3, 7, 7, 8, 8, 8, 8, 8, 8, 9, 9, 10, 10, 11, 11, 12, 12, 12};
        int kind = often[below(often.length)];
        if (kind == 2 && below(3) > 0) {
            kind = 8;
        }
        int[] call = new int[7];
        call[0] = kind;
        tame(call);
        if (below(12) == 0) {
            call[1 + below(6)] = WILD[below(WILD.length)];
        }
        return call;
    }

    private static void tame(int[] call) {
        call[1] = below(6);
        switch (call[0]) {
            case 0:
                call[2] = below(3) == 0 ? below(10) : below(3);
                break;
            case 1:
                call[1] = 8 << below(3);
                call[2] = 1 + below(below(2) == 0 ? 2 : 4);
                call[3] = below(4) == 0 ? 1 + below(60) : 40 + below(21);
                call[4] = below(6);
                call[5] = below(3) == 0 ? -1 : below(6);
                call[6] = call[5] == -1 || below(2) == 0 ? -1 : below(6);
                break;
            case 3:
                call[1] = below(4) == 0 ? below(200) : below(20) == 0 ? 20000 : 2000;
                break;
            case 8:
                call[1] = below(5) == 0 ? 1 + below(200) : 1 + below(20);
                break;
            case 9:
                call[1] = below(5);
                call[2] = below(4);
                call[3] = below(2) == 0 ? 0 : below(8);
                break;
            case 10:
                call[1] = below(5);
                break;
            case 11:
                call[2] = below(3);
                break;
            default:
                call[2] = 1 + below(8);
                break;
        }
    }

    private static String text(int[] call) {
        String[] names = {"delay", "stream", "clear", "build", "tries", "offset", "gate", "activate", "tick", "talk",
            "unblock", "cut", "babble", "told", "link", "streams"};
        StringBuilder text = new StringBuilder(names[call[0]]);
        for (int i = 1; i < call.length; i++) {
            text.append(i == 1 ? "(" : ", ").append(call[i]);
        }
        return text.append(")").toString();
    }

    private static String answer(Plant plant, int[] call) {
        try {
            return String.valueOf(made(plant, call));
        } catch (RuntimeException e) {
            return "throws." + e.getClass().getSimpleName();
        }
    }

    private static int made(Plant plant, int[] call) {
        switch (call[0]) {
            case 0:
                plant.delay(call[1], call[2]);
                return 0;
            case 1:
                return plant.stream(call[1], call[2], call[3], call[4], call[5], call[6]);
            case 2:
                plant.clear();
                return 0;
            case 3:
                return plant.build(call[1]);
            case 4:
                return plant.tries();
            case 5:
                return plant.offset(call[1]);
            case 6:
                return plant.gate(call[1], call[2]);
            case 7:
                plant.activate();
                return 0;
            case 8:
                return plant.tick(call[1]);
            case 9:
                plant.talk(call[1], call[2] != 0, call[3]);
                return 0;
            case 10:
                return plant.unblock(call[1]) ? 1 : 0;
            case 11:
                return plant.cut(call[1], call[2] == 0) ? 1 : 0;
            case 12:
                return plant.babble(call[1], call[2]);
            case 13:
                return plant.told(call[1], call[2]);
            case 14:
                return plant.link(call[1], call[2]);
            default:
                return plant.streams(call[1]);
        }
    }
}
