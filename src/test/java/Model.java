import java.util.ArrayList;
import java.util.LinkedHashMap;
import java.util.List;
import java.util.Map;

/**
 * The document once more, as plainly as the Java library lets it be said: recursion, maps and
 * exceptions, which the program itself may not use. ModelTest compares the two.
 */
final class Model {
    private static final int BAD = -1, FULL = -2, NONE = -3, TAKEN = -4;
    /** Calls whose outcome why() tells, and those among them that answer 0 if nothing is found. */
    static final List<String> TELLING = List.of("make", "see", "put", "that", "constant", "seen");
    private static final List<String> FINDING = List.of("see", "constant", "seen");

    private static final class Refused extends RuntimeException {
        private static final long serialVersionUID = 1L;
        final int code;

        Refused(int code) {
            super(null, null, false, false);
            this.code = code;
        }
    }

    private static final class Var {
        long value;
        boolean isStatic;
        boolean assigned;
        boolean copy;
        int name;
    }

    private static final class T {
        int kind;
        T outer;
        int letter = -1;
        int number;
        List<Var> ahead = new ArrayList<>();
        Map<Integer, Var> fields = new LinkedHashMap<>();
        List<Var> locals = new ArrayList<>();
        boolean methodStatic;
        T parent;

        boolean bound() {
            return kind == 2 || ((kind == 3 || kind == 5) && !outer.methodStatic);
        }

        String text() {
            String own = (kind >= 3 ? "" + number : "") + (kind == 5 ? "" : "" + (char) (65 + letter));
            return outer == null ? own : outer.text() + "$" + own;
        }

        List<T> upwards() {
            List<T> all = new ArrayList<>();
            for (T t = this; t != null; t = t.parent) {
                all.add(t);
            }
            return all;
        }
    }

    private static final class L {
        Map<Integer, Var> fields = new LinkedHashMap<>();
        O around;
        Map<Var, Var> copies = new LinkedHashMap<>();
    }

    private static final class O {
        T type;
        Map<T, L> levels = new LinkedHashMap<>();
    }

    private static final class Fn {
        T type;
        O object;
        List<Var> locals = new ArrayList<>();
        List<Var> copies = new ArrayList<>();
    }

    private final List<T> types = new ArrayList<>();
    private final O[] places = new O[8];
    private final List<Fn> lambdas = new ArrayList<>();
    private int made;
    private int why;

    private static void check(boolean holds, int code) {
        if (!holds) {
            throw new Refused(code);
        }
    }

    private T t(int number) {
        check(number >= 0 && number < types.size(), BAD);
        return types.get(number);
    }

    private static void within(int number, int limit) {
        check(number >= 0 && number < limit, BAD);
    }

    /** One call by its name; the answer, with refusals as the document codes them. */
    long call(String name, long[] a) {
        int p = (int) a[0];
        int q = (int) a[1];
        int r = (int) a[2];
        boolean tells = TELLING.contains(name);
        try {
            long answer = answer(name, p, q, r, a[3], a[4] != 0);
            if (tells) {
                why = 0;
            }
            return answer;
        } catch (Refused refused) {
            if (tells) {
                why = refused.code;
            }
            return FINDING.contains(name) ? 0 : refused.code;
        }
    }

    private long answer(String name, int p, int q, int r, long v, boolean flag) {
        switch (name) {
            case "type": return type(p, q, r);
            case "field": return field(t(p), q, v, flag);
            case "local": return local(t(p), q, v);
            case "assign": return assign(t(p), q, v);
            case "method": return method(t(p), flag);
            case "parent": return parent(t(p), t(q));
            case "name": return name(t(p).text(), q);
            case "make": return make(t(p), q, r);
            case "share": return share(p, q);
            case "free": within(p, 8); long held = places[p] != null ? 1 : 0; places[p] = null; return held;
            case "about": return about(p, q);
            case "same": within(p, 8); within(q, 8); return places[p] == places[q] ? 1 : 0;
            case "see": return found(p, q).value;
            case "put": return put(found(p, q), v);
            case "that": return that(p, q, r);
            case "constant": return constant(t(p), q);
            case "lambda": return lambda(p, q);
            case "seen": return seen(p, q);
            case "why": return why;
            default: return count(p);
        }
    }

    private int type(int kind, int outer, int letter) {
        within(kind, 6);
        T type = new T();
        type.kind = kind;
        if (kind != 5) {
            within(letter, 26);
            type.letter = letter;
        }
        if (kind != 0) {
            type.outer = t(outer);
        }
        check(types.size() < 12, FULL);
        if (kind != 5) {
            for (T up = type.outer; up != null; up = up.outer) {
                check(up.kind == 5 || up.letter != letter, TAKEN);
            }
            for (T other : types) {
                boolean alike = kind == 0 && other.kind == 0
                        || (kind == 1 || kind == 2) && (other.kind == 1 || other.kind == 2) && other.outer == type.outer;
                check(!alike || other.letter != letter, TAKEN);
            }
        }
        if (kind >= 3) {
            type.ahead.addAll(type.outer.locals);
            type.number = 1;
            boolean again = true;
            while (again) {
                again = false;
                for (T other : types) {
                    if (other.kind >= 3 && other.outer == type.outer && other.letter == type.letter
                            && other.number == type.number) {
                        type.number++;
                        again = true;
                    }
                }
            }
        }
        types.add(type);
        return types.size() - 1;
    }

    private int field(T type, int name, long v, boolean isStatic) {
        within(name, 8);
        check(type.fields.size() < 4, FULL);
        check(!type.fields.containsKey(name), TAKEN);
        Var field = new Var();
        field.value = v;
        field.isStatic = isStatic;
        type.fields.put(name, field);
        return type.fields.size();
    }

    private int local(T type, int name, long v) {
        within(name, 8);
        check(type.locals.size() < 4, FULL);
        Var local = new Var();
        local.name = name;
        local.value = v;
        type.locals.add(local);
        return type.locals.size();
    }

    private int assign(T type, int index, long v) {
        within(index, type.locals.size());
        Var local = type.locals.get(index);
        int before = local.assigned ? 1 : 0;
        local.assigned = true;
        local.value = v;
        return before;
    }

    private int method(T type, boolean isStatic) {
        for (T other : types) {
            check(other.kind < 3 || other.outer != type, TAKEN);
        }
        int before = type.methodStatic ? 1 : 0;
        type.methodStatic = isStatic;
        return before;
    }

    private int parent(T type, T above) {
        check(type.kind != 4 && above.kind != 4, BAD);
        check(type.parent == null && !above.upwards().contains(type), TAKEN);
        type.parent = above;
        return 1;
    }

    private int name(String text, int i) {
        if (i == NONE) {
            return text.length();
        }
        within(i, text.length());
        return text.charAt(i);
    }

    private int make(T type, int around, int place) {
        within(place, 8);
        O object = new O();
        object.type = type;
        O near = null;
        if (type.bound()) {
            within(around, 8);
            near = places[around];
            check(near != null, 1);
            check(near.levels.containsKey(type.outer), 2);
        }
        for (T up : type.upwards()) {
            L level = new L();
            if (up.bound()) {
                level.around = up == type ? near : nearest(near, type.outer, up.outer);
                check(level.around != null, 3);
            }
            up.fields.forEach((name, field) -> {
                if (!field.isStatic) {
                    Var own = new Var();
                    own.value = field.value;
                    level.fields.put(name, own);
                }
            });
            if (up.kind == 3 || up.kind == 5) {
                for (Var local : up.ahead) {
                    level.copies.put(local, copy(local));
                }
            }
            object.levels.put(up, level);
        }
        places[place] = object;
        made++;
        return 0;
    }

    private static Var copy(Var local) {
        Var copy = new Var();
        copy.value = local.value;
        copy.copy = true;
        return copy;
    }

    private static O nearest(O object, T at, T wanted) {
        if (object == null || object.levels.containsKey(wanted)) {
            return object;
        }
        return nearest(object.levels.get(at).around, at.outer, wanted);
    }

    private int share(int from, int to) {
        within(from, 8);
        within(to, 8);
        places[to] = places[from];
        return places[from] != null ? 1 : 0;
    }

    private int about(int place, int what) {
        within(place, 8);
        within(what, 4);
        O object = places[place];
        check(object != null, NONE);
        L first = object.levels.get(object.type);
        if (what == 2) {
            check(first.around != null, NONE);
            return types.indexOf(first.around.type);
        }
        return what == 0 ? types.indexOf(object.type) : what == 1 ? object.levels.size() : first.copies.size();
    }

    private Var found(int place, int name) {
        within(place, 8);
        within(name, 8);
        check(places[place] != null, 9);
        return found(places[place].type, places[place], name);
    }

    private static Var found(T type, O object, int name) {
        check(type != null, 8);
        for (T up : type.upwards()) {
            if (up.fields.containsKey(name)) {
                Var field = up.fields.get(name);
                if (field.isStatic) {
                    return field;
                }
                check(object != null, 4);
                check(object.levels.containsKey(up) && object.levels.get(up).fields.containsKey(name), 5);
                return object.levels.get(up).fields.get(name);
            }
        }
        Var local = latest(type.ahead, name);
        if (local != null) {
            check(type.kind != 4, 6);
            check(!local.assigned, 7);
            check(object != null, 4);
            check(object.levels.containsKey(type), 5);
            return object.levels.get(type).copies.get(local);
        }
        boolean goesOn = object != null && type.bound();
        return found(type.outer, goesOn ? object.levels.get(type).around : null, name);
    }

    private static Var latest(List<Var> locals, int name) {
        Var latest = null;
        for (Var local : locals) {
            if (local.name == name) {
                latest = local;
            }
        }
        return latest;
    }

    private static int put(Var found, long v) {
        check(!found.copy, 7);
        found.value = v;
        return 0;
    }

    private int that(int place, int type, int to) {
        within(place, 8);
        T wanted = t(type);
        within(to, 8);
        check(places[place] != null, 9);
        places[to] = that(places[place].type, places[place], wanted);
        return 0;
    }

    private static O that(T at, O object, T wanted) {
        check(at != null, 8);
        if (at == wanted) {
            check(object != null, 4);
            return object;
        }
        boolean goesOn = object != null && at.bound();
        return that(at.outer, goesOn ? object.levels.get(at).around : null, wanted);
    }

    private static long constant(T type, int i) {
        within(i, type.fields.size());
        Var field = new ArrayList<>(type.fields.values()).get(i);
        check(field.isStatic, BAD);
        return field.value;
    }

    private int lambda(int place, int n) {
        within(place, 8);
        check(places[place] != null, NONE);
        Fn lambda = new Fn();
        lambda.type = places[place].type;
        within(n, lambda.type.locals.size() + 1);
        check(lambdas.size() < 6, FULL);
        lambda.object = lambda.type.methodStatic ? null : places[place];
        for (Var local : lambda.type.locals.subList(0, n)) {
            lambda.locals.add(local);
            lambda.copies.add(copy(local));
        }
        lambdas.add(lambda);
        return lambdas.size() - 1;
    }

    private long seen(int number, int name) {
        within(number, lambdas.size());
        within(name, 8);
        Fn lambda = lambdas.get(number);
        Var local = latest(lambda.locals, name);
        if (local == null) {
            return found(lambda.type, lambda.object, name).value;
        }
        check(!local.assigned, 7);
        return lambda.copies.get(lambda.locals.indexOf(local)).value;
    }

    private int count(int what) {
        within(what, 4);
        int held = 0;
        for (O object : places) {
            held += object != null ? 1 : 0;
        }
        return new int[] {types.size(), made, lambdas.size(), held}[what];
    }
}
