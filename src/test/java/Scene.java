import java.util.ArrayList;
import java.util.List;
import java.util.function.Consumer;
import java.util.function.ToLongFunction;

/**
 * A state in which calls are refused: each such call must answer as it is due, and all that can
 * be asked afterwards must be as if it had not been made.
 */
final class Scene {
    private static final int TOP = 0, STATIC = 1, INNER = 2, LOCAL = 3, RECORD = 4, UNNAMED = 5;

    private final Due due;
    private final String title;
    private final Consumer<InnerCaptures> calls;
    private final List<String> before;
    private final int whyBefore;

    Scene(Due due, String title, Consumer<InnerCaptures> calls) {
        this.due = due;
        this.title = title;
        this.calls = calls;
        this.before = State.of(calls);
        this.whyBefore = fresh().why();
    }

    InnerCaptures fresh() {
        InnerCaptures x = new InnerCaptures();
        calls.accept(x);
        return x;
    }

    /** A call that why() does not tell of: it leaves that as it was, too. */
    void refuses(String what, ToLongFunction<InnerCaptures> call, long answer) {
        refuses(what, call, answer, whyBefore);
    }

    /** A call that why() tells of: that alone may change. */
    void refuses(String what, ToLongFunction<InnerCaptures> call, long answer, int why) {
        InnerCaptures x = fresh();
        due.isFound(title + ", " + what, call.applyAsLong(x), x, answer, why);
        List<String> after = State.of(y -> {
            calls.accept(y);
            call.applyAsLong(y);
        });
        List<String> changed = new ArrayList<>(after);
        changed.removeAll(before);
        due.isTrue(title + ", " + what + " changes nothing, but then " + changed, after.equals(before));
    }

    static Scene empty(Due due) {
        return new Scene(due, "a new object", x -> { });
    }

    static Scene village(Due due) {
        return new Scene(due, "some of each", Scene::villageIn);
    }

    static Scene crowd(Due due) {
        return new Scene(due, "all full", Scene::crowdIn);
    }

    /**
     * Nine types, places 0 to 6 held, place 7 free, two lambdas; type 0 has two fields and two
     * locals, the second one ASSIGNED; type 6 has a STATIC method; type 2 is below 1 and that below 5.
     */
    static void villageIn(InnerCaptures x) {
        x.type(TOP, 0, 0);
        x.field(0, 0, 10, false);
        x.field(0, 1, 11, true);
        x.local(0, 2, 20);
        x.local(0, 3, 21);
        x.type(INNER, 0, 1);
        x.type(LOCAL, 0, 2);
        x.type(RECORD, 0, 3);
        x.type(UNNAMED, 0, 0);
        x.type(STATIC, 0, 4);
        x.type(TOP, 0, 5);
        x.method(6, true);
        x.local(6, 4, 30);
        x.type(LOCAL, 6, 6);
        x.type(INNER, 5, 7);
        x.parent(1, 5);
        x.parent(2, 1);
        x.field(1, 4, 12, false);
        x.field(5, 5, 13, false);
        x.field(2, 6, 14, true);
        x.local(2, 1, 22);
        x.assign(0, 1, 23);
        x.make(0, 0, 0);
        x.make(1, 0, 1);
        x.make(2, 0, 2);
        x.make(3, 0, 3);
        x.make(7, 0, 4);
        x.make(5, 0, 5);
        x.share(1, 6);
        x.put(1, 4, 99);
        x.lambda(0, 2);
        x.lambda(2, 1);
        x.see(7, 0);
    }

    /** The village with twelve types, four fields and locals of type 0, eight objects, six lambdas. */
    static void crowdIn(InnerCaptures x) {
        villageIn(x);
        x.type(UNNAMED, 8, 0);
        x.type(RECORD, 6, 8);
        x.type(INNER, 0, 9);
        x.field(0, 6, 15, false);
        x.field(0, 7, 16, true);
        x.local(0, 4, 24);
        x.local(0, 2, 25);
        x.make(11, 0, 7);
        x.make(2, 0, 2);
        for (int place = 0; place < 4; place++) {
            x.lambda(place, 0);
        }
        x.see(3, 2);
    }
}
