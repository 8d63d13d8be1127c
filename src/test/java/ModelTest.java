import java.util.ArrayList;
import java.util.Arrays;
import java.util.List;
import java.util.TreeMap;
import java.util.function.Consumer;

/**
 * All promises over many runs of 512 calls each, every second one being why(): every answer is
 * that of the model, no call throws, and calls that are refused change nothing. The numbers are
 * the same in every run.
 */
public final class ModelTest {
    private static final int RUNS = 8000, STEPS = 256;
    /** Asking for a whole state takes long, so it is asked of some runs, and of their beginning. */
    private static final int RUNS_PER_STATE = 40, STEPS_OF_STATE = 120;
    private static final String[] NAMES = {"type", "field", "local", "assign", "method", "parent",
        "name", "make", "share", "free", "about", "same", "see", "put", "that", "constant",
        "lambda", "seen", "why", "count"};
    /** How often each call comes, first while types are built and then when they stand. */
    private static final int[] BUILDING = {16, 12, 10, 1, 4, 8, 1, 14, 1, 0, 1, 0, 5, 2, 1, 1, 1, 1, 3, 1};
    private static final int[] STANDING = {2, 5, 2, 1, 2, 2, 4, 30, 3, 1, 6, 3, 30, 12, 10, 4, 6, 16, 2, 3};
    private static final int[] WILD = {-1, -2, -3, -4, 8, 12, 26, 6, 4, 99, Integer.MAX_VALUE, Integer.MIN_VALUE};

    private static final Due due = new Due();
    private static final TreeMap<String, Integer> seenOutcomes = new TreeMap<>();
    private static long state = 0;

    public static void main(String[] args) {
        for (int run = 0; run < RUNS; run++) {
            state = run * 7919L + 17;
            compare(run);
        }
        checkThatAllCameUp();
        due.end();
    }

    private static int below(int limit) {
        state = state * 6364136223846793005L + 1442695040888963407L;
        return (int) ((state >>> 33) % limit);
    }

    private static void compare(int run) {
        InnerCaptures x = new InnerCaptures();
        Model model = new Model();
        List<Consumer<InnerCaptures>> all = new ArrayList<>();
        List<Consumer<InnerCaptures>> accepted = new ArrayList<>();
        int building = 30 + below(80);
        for (int i = 0; i < STEPS; i++) {
            String name = NAMES[pick(i < building ? BUILDING : STANDING)];
            long[] args = args(name, (int) model.call("count", new long[5]));
            long want = model.call(name, args);
            long got = call(x, name, args);
            int why = x.why();
            due.is("run " + run + ", step " + i + ", " + name + Arrays.toString(args), got, want);
            due.is("run " + run + ", step " + i + ", why()", why, model.call("why", args));
            note(name, got, why);
            if (i < STEPS_OF_STATE) {
                all.add(y -> call(y, name, args));
                if (!isRefused(name, got, why)) {
                    accepted.add(y -> call(y, name, args));
                }
            }
        }
        if (run % RUNS_PER_STATE == 0) {
            compareStates(run, all, accepted);
        }
    }

    private static int pick(int[] weights) {
        int sum = 0;
        for (int weight : weights) {
            sum += weight;
        }
        int at = below(sum);
        int i = 0;
        while (at >= weights[i]) {
            at -= weights[i];
            i++;
        }
        return i;
    }

    private static int number(int limit) {
        return below(40) == 0 ? WILD[below(WILD.length)] : below(Math.max(1, limit));
    }

    /** Three numbers, a value and a flag, of which each call takes what it needs. */
    private static long[] args(String name, int types) {
        int[] limits;
        switch (name) {
            case "type": limits = new int[] {6, types, 6}; break;
            case "field": case "local": limits = new int[] {types, 8, 1}; break;
            case "assign": case "constant": limits = new int[] {types, 4, 1}; break;
            case "parent": limits = new int[] {types, types, 1}; break;
            case "name": limits = new int[] {types, 12, 1}; break;
            case "make": limits = new int[] {types, 8, 8}; break;
            case "about": limits = new int[] {8, 4, 1}; break;
            case "that": limits = new int[] {8, types, 8}; break;
            case "lambda": limits = new int[] {8, 4, 1}; break;
            case "seen": limits = new int[] {6, 8, 1}; break;
            case "count": limits = new int[] {4, 1, 1}; break;
            case "method": limits = new int[] {types, 1, 1}; break;
            default: limits = new int[] {8, 8, 8}; break;
        }
        int kindOfTop = name.equals("type") && below(3) != 0 ? 1 : 0;
        long first = number(limits[0]);
        return new long[] {first == 0 ? kindOfTop * (1 + below(5)) : first, number(limits[1]),
            number(limits[2]), below(1000) * (below(9) == 0 ? Long.MAX_VALUE / 1000 : 1L), below(3) == 0 ? 1 : 0};
    }

    private static long call(InnerCaptures x, String name, long[] a) {
        int p = (int) a[0];
        int q = (int) a[1];
        int r = (int) a[2];
        switch (name) {
            case "type": return x.type(p, q, r);
            case "field": return x.field(p, q, a[3], a[4] != 0);
            case "local": return x.local(p, q, a[3]);
            case "assign": return x.assign(p, q, a[3]);
            case "method": return x.method(p, a[4] != 0);
            case "parent": return x.parent(p, q);
            case "name": return x.name(p, q);
            case "make": return x.make(p, q, r);
            case "share": return x.share(p, q);
            case "free": return x.free(p);
            case "about": return x.about(p, q);
            case "same": return x.same(p, q);
            case "see": return x.see(p, q);
            case "put": return x.put(p, q, a[3]);
            case "that": return x.that(p, q, r);
            case "constant": return x.constant(p, q);
            case "lambda": return x.lambda(p, q);
            case "seen": return x.seen(p, q);
            case "why": return x.why();
            default: return x.count(p);
        }
    }

    private static boolean tells(String name) {
        return Model.TELLING.contains(name);
    }

    private static boolean isRefused(String name, long got, int why) {
        return tells(name) ? why != 0 : got < 0;
    }

    private static void note(String name, long got, int why) {
        String outcome = tells(name) ? name + " " + why : got < 0 ? name + " " + got : name + " is done";
        seenOutcomes.merge(outcome, 1, Integer::sum);
    }

    /** What an object that had the accepted calls alone shows must be what this one shows. */
    private static void compareStates(int run, List<Consumer<InnerCaptures>> all, List<Consumer<InnerCaptures>> accepted) {
        List<String> shown = State.of(x -> all.forEach(call -> call.accept(x)));
        List<String> wanted = State.of(x -> accepted.forEach(call -> call.accept(x)));
        List<String> changed = new ArrayList<>(shown);
        changed.removeAll(wanted);
        due.isTrue("run " + run + ", refused calls change nothing, but then " + changed, shown.equals(wanted));
    }

    /** Runs that never reach an outcome would show nothing of it. */
    private static void checkThatAllCameUp() {
        String[][] rows = {
            {"type", "-1 -2 -4"}, {"field", "-1 -2 -4"}, {"local", "-1 -2"}, {"assign", "-1"},
            {"method", "-1 -4"}, {"parent", "-1 -4"}, {"name", "-1"}, {"make", "-1 0 1 2 3"},
            {"share", "-1"}, {"free", "-1"}, {"about", "-1 -3"}, {"same", "-1"},
            {"see", "-1 0 4 5 6 7 8 9"}, {"put", "-1 0 4 5 6 7 8 9"}, {"that", "-1 0 4 8 9"},
            {"constant", "-1 0"}, {"lambda", "-1 -2 -3"}, {"seen", "-1 0 4 5 6 7 8"}, {"count", "-1"}};
        for (String[] row : rows) {
            for (String outcome : row[1].split(" ")) {
                String key = row[0] + " " + outcome;
                due.isTrue("more than 50 times " + key, seenOutcomes.getOrDefault(key, 0) > 50);
            }
            due.isTrue(row[0] + " is done", tells(row[0]) || seenOutcomes.getOrDefault(row[0] + " is done", 0) > 50);
        }
    }
}
