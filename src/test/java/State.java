import java.util.ArrayList;
import java.util.List;
import java.util.function.Consumer;

/**
 * All that can be asked of an object in a state. The state is told by the calls that lead to it,
 * so every question gets an object of its own: questions that change something are asked, too,
 * and no object comes near its 512th call.
 */
final class State {
    private static final int NONE = -3;
    private static final int TYPES = 12, PLACES = 8, NAMES = 8, LAMBDAS = 6, FIELDS = 4, LOCALS = 4;

    private final Consumer<InnerCaptures> scene;
    private final List<String> answers = new ArrayList<>();

    private State(Consumer<InnerCaptures> scene) {
        this.scene = scene;
    }

    /** Every answer, as a line with its question; what why() tells at first is left out. */
    static List<String> of(Consumer<InnerCaptures> scene) {
        State state = new State(scene);
        state.askCounts();
        for (int type = 0; type < TYPES; type++) {
            state.askType(type);
            state.askParents(type);
            state.askMaking(type);
        }
        for (int place = 0; place < PLACES; place++) {
            state.askPlace(place);
            state.askThat(place);
        }
        state.askLambdas();
        return state.answers;
    }

    private InnerCaptures fresh() {
        InnerCaptures x = new InnerCaptures();
        scene.accept(x);
        return x;
    }

    private void add(String question, StringBuilder answer) {
        answers.add(question + ":" + answer);
    }

    private void askCounts() {
        InnerCaptures x = fresh();
        StringBuilder told = new StringBuilder();
        for (int what = 0; what < 4; what++) {
            told.append(' ').append(x.count(what));
        }
        add("counts", told);
    }

    private void askType(int type) {
        InnerCaptures x = fresh();
        StringBuilder told = new StringBuilder();
        int length = x.name(type, NONE);
        for (int i = 0; i < length; i++) {
            told.append((char) x.name(type, i));
        }
        for (int i = 0; i < FIELDS; i++) {
            told.append(" constant ").append(x.constant(type, i)).append(" why ").append(x.why());
        }
        for (int i = 0; i < LOCALS; i++) {
            told.append(" assigned ").append(x.assign(type, i, 0));
        }
        told.append(" local ").append(x.local(type, 0, 0));
        told.append(" static ").append(x.method(type, true));
        for (int name = 0; name < NAMES; name++) {
            told.append(" field ").append(x.field(type, name, 0, false));
        }
        told.append(" within ").append(x.type(1, type, 25));
        add("type " + type, told);
    }

    private void askParents(int type) {
        StringBuilder told = new StringBuilder();
        for (int above = 0; above < TYPES; above++) {
            told.append(' ').append(fresh().parent(type, above));
        }
        add("parents of " + type, told);
    }

    /** A new object shows first values, levels and locals that none of the old ones shows. */
    private void askMaking(int type) {
        for (int around = 0; around < PLACES; around++) {
            InnerCaptures x = fresh();
            StringBuilder told = new StringBuilder();
            told.append(' ').append(x.make(type, around, around));
            told.append(" made ").append(x.count(1));
            seeAll(x, around, told);
            int lambda = x.lambda(around, LOCALS);
            for (int n = LOCALS - 1; n >= 0 && lambda < 0; n--) {
                lambda = x.lambda(around, n);
            }
            told.append(" lambda ").append(lambda);
            seenAll(x, lambda, told);
            add("a new " + type + " around " + around, told);
        }
    }

    private static void seeAll(InnerCaptures x, int place, StringBuilder told) {
        for (int name = 0; name < NAMES; name++) {
            told.append(" see ").append(x.see(place, name)).append(" why ").append(x.why());
        }
    }

    private static void seenAll(InnerCaptures x, int lambda, StringBuilder told) {
        for (int name = 0; name < NAMES; name++) {
            told.append(" seen ").append(x.seen(lambda, name)).append(" why ").append(x.why());
        }
    }

    private void askPlace(int place) {
        InnerCaptures x = fresh();
        StringBuilder told = new StringBuilder();
        for (int what = 0; what < 4; what++) {
            told.append(" about ").append(x.about(place, what));
        }
        for (int other = 0; other < PLACES; other++) {
            told.append(" same ").append(x.same(place, other));
        }
        seeAll(x, place, told);
        told.append(" free ").append(x.free(place));
        add("place " + place, told);
    }

    private void askThat(int place) {
        for (int type = 0; type < TYPES; type++) {
            InnerCaptures x = fresh();
            StringBuilder told = new StringBuilder();
            told.append(' ').append(x.that(place, type, place)).append(" is ").append(x.about(place, 0));
            for (int other = 0; other < PLACES; other++) {
                told.append(" same ").append(x.same(place, other));
            }
            seeAll(x, place, told);
            add("that of " + type + " from " + place, told);
        }
    }

    private void askLambdas() {
        for (int lambda = 0; lambda <= LAMBDAS; lambda++) {
            InnerCaptures x = fresh();
            StringBuilder told = new StringBuilder();
            seenAll(x, lambda, told);
            add("lambda " + lambda, told);
        }
    }
}
