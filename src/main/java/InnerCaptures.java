import java.util.Arrays;

/**
 * Types within types, the objects that are made of them, and which field, copied local or object
 * around a name means when it is used in there.
 */
public final class InnerCaptures {
    public static final int BAD = -1, FULL = -2, NONE = -3, TAKEN = -4;

    private static final int TYPE_LIMIT = 12;
    private static final int FIELD_LIMIT = 4;
    private static final int LOCAL_LIMIT = 4;
    private static final int NAME_LIMIT = 8;
    private static final int LETTER_LIMIT = 26;
    private static final int PLACE_LIMIT = 8;
    private static final int LAMBDA_LIMIT = 6;

    private static final int TOP = 0, STATIC = 1, INNER = 2, LOCAL = 3, RECORD = 4, UNNAMED = 5;

    private static final int DONE = 0, NULL = 1, CAST = 2, ALONE = 3, CUT = 4, LATE = 5, LOCKED = 6,
            ASSIGNED = 7, UNKNOWN = 8, NOTHING = 9;

    private static final int NO_LETTER = -1;
    private static final int NOT_THERE = -1;

    /** Shared by all that has no cells, so that it costs no room; nothing can be written to it. */
    private static final long[] NO_CELLS = {};

    private final Type[] types = new Type[TYPE_LIMIT];
    private int typeCount = 0;
    private final Thing[] places = new Thing[PLACE_LIMIT];
    private int madeCount = 0;
    private final Lambda[] lambdas = new Lambda[LAMBDA_LIMIT];
    private int lambdaCount = 0;
    private final Cell found = new Cell();
    private int outcome = DONE;

    public InnerCaptures() {
    }

    // ---- types

    public int type(int kind, int outer, int letter) {
        if (kind < TOP || kind > UNNAMED) {
            return BAD;
        }
        if (kind != UNNAMED && (letter < 0 || letter >= LETTER_LIMIT)) {
            return BAD;
        }
        Type around = kind == TOP ? null : typeAt(outer);
        if (kind != TOP && around == null) {
            return BAD;
        }
        if (typeCount >= TYPE_LIMIT) {
            return FULL;
        }
        int ownLetter = kind == UNNAMED ? NO_LETTER : letter;
        if (isLetterTaken(kind, around, ownLetter)) {
            return TAKEN;
        }
        int twin = twinNumber(kind, around, ownLetter);
        types[typeCount] = new Type(typeCount, kind, around, ownLetter, twin);
        typeCount++;
        return typeCount - 1;
    }

    public int field(int type, int name, long v, boolean isStatic) {
        Type owner = typeAt(type);
        if (owner == null || !isName(name)) {
            return BAD;
        }
        Fields fields = owner.fields;
        if (fields.size >= FIELD_LIMIT) {
            return FULL;
        }
        if (fields.indexOf(name) != NOT_THERE) {
            return TAKEN;
        }
        fields.add(name, v, isStatic);
        return fields.size;
    }

    public int local(int type, int name, long v) {
        Type owner = typeAt(type);
        if (owner == null || !isName(name)) {
            return BAD;
        }
        Locals locals = owner.locals;
        if (locals.size >= LOCAL_LIMIT) {
            return FULL;
        }
        locals.add(name, v);
        return locals.size;
    }

    public int assign(int type, int local, long v) {
        Type owner = typeAt(type);
        if (owner == null || !owner.locals.has(local)) {
            return BAD;
        }
        boolean before = owner.locals.isAssigned(local);
        owner.locals.set(local, v);
        return before ? 1 : 0;
    }

    public int method(int type, boolean isStatic) {
        Type owner = typeAt(type);
        if (owner == null) {
            return BAD;
        }
        if (hasTypeInMethod(owner)) {
            return TAKEN;
        }
        boolean before = owner.isMethodStatic;
        owner.isMethodStatic = isStatic;
        return before ? 1 : 0;
    }

    public int parent(int type, int above) {
        Type lower = typeAt(type);
        Type upper = typeAt(above);
        if (lower == null || upper == null) {
            return BAD;
        }
        if (lower.kind == RECORD || upper.kind == RECORD) {
            return BAD;
        }
        if (lower.parentType != null || isSameOrAbove(lower, upper)) {
            return TAKEN;
        }
        lower.parentType = upper;
        return 1;
    }

    public int name(int type, int i) {
        Type named = typeAt(type);
        if (named == null) {
            return BAD;
        }
        String text = named.className;
        if (i == NONE) {
            return text.length();
        }
        if (i < 0 || i >= text.length()) {
            return BAD;
        }
        return text.charAt(i);
    }

    // ---- objects

    public int make(int type, int around, int place) {
        outcome = makeInto(type, around, place);
        return outcome;
    }

    public int share(int from, int to) {
        if (!isPlace(from) || !isPlace(to)) {
            return BAD;
        }
        places[to] = places[from];
        return places[to] != null ? 1 : 0;
    }

    public int free(int place) {
        if (!isPlace(place)) {
            return BAD;
        }
        boolean held = places[place] != null;
        places[place] = null;
        return held ? 1 : 0;
    }

    public int about(int place, int what) {
        if (!isPlace(place) || what < 0 || what > 3) {
            return BAD;
        }
        Thing thing = places[place];
        if (thing == null) {
            return NONE;
        }
        switch (what) {
            case 0:
                return thing.ownType.number;
            case 1:
                return thing.levels.length;
            case 2:
                Thing around = thing.aroundAt(thing.ownType);
                return around == null ? NONE : around.ownType.number;
            default:
                Level first = thing.levelOf(thing.ownType);
                return first == null ? 0 : first.copies.length;
        }
    }

    public int same(int a, int b) {
        if (!isPlace(a) || !isPlace(b)) {
            return BAD;
        }
        return places[a] == places[b] ? 1 : 0;
    }

    public long see(int place, int name) {
        outcome = findFromPlace(place, name);
        return outcome == DONE ? found.read() : 0L;
    }

    public int put(int place, int name, long v) {
        outcome = findFromPlace(place, name);
        if (outcome == DONE && found.isCopy) {
            outcome = ASSIGNED;
        }
        if (outcome == DONE) {
            found.write(v);
        }
        return outcome;
    }

    public int that(int place, int type, int to) {
        outcome = holdThat(place, type, to);
        return outcome;
    }

    public long constant(int type, int i) {
        Type owner = typeAt(type);
        if (owner == null || !owner.fields.isStatic(i)) {
            outcome = BAD;
            return 0L;
        }
        outcome = DONE;
        return owner.fields.values[i];
    }

    // ---- lambdas

    public int lambda(int place, int n) {
        if (!isPlace(place)) {
            return BAD;
        }
        Thing thing = places[place];
        if (thing == null) {
            return NONE;
        }
        Type home = thing.ownType;
        if (n < 0 || n > home.locals.size) {
            return BAD;
        }
        if (lambdaCount >= LAMBDA_LIMIT) {
            return FULL;
        }
        Thing kept = home.isMethodStatic ? null : thing;
        lambdas[lambdaCount] = new Lambda(home, kept, home.locals.copyOfFirst(n));
        lambdaCount++;
        return lambdaCount - 1;
    }

    public long seen(int lambda, int name) {
        outcome = findFromLambda(lambda, name);
        return outcome == DONE ? found.read() : 0L;
    }

    public int why() {
        return outcome;
    }

    public int count(int what) {
        switch (what) {
            case 0:
                return typeCount;
            case 1:
                return madeCount;
            case 2:
                return lambdaCount;
            case 3:
                return heldPlaces();
            default:
                return BAD;
        }
    }

    // ---- what numbers stand for

    private Type typeAt(int number) {
        return number >= 0 && number < typeCount ? types[number] : null;
    }

    private Lambda lambdaAt(int number) {
        return number >= 0 && number < lambdaCount ? lambdas[number] : null;
    }

    private static boolean isPlace(int number) {
        return number >= 0 && number < PLACE_LIMIT;
    }

    private static boolean isName(int number) {
        return number >= 0 && number < NAME_LIMIT;
    }

    private int heldPlaces() {
        int held = 0;
        for (int i = 0; i < PLACE_LIMIT; i++) {
            if (places[i] != null) {
                held++;
            }
        }
        return held;
    }

    // ---- types among one another

    private static boolean isMember(int kind) {
        return kind == STATIC || kind == INNER;
    }

    private static boolean standsInMethod(int kind) {
        return kind == LOCAL || kind == RECORD || kind == UNNAMED;
    }

    private boolean isLetterTaken(int kind, Type outer, int letter) {
        if (kind == UNNAMED) {
            return false;
        }
        if (kind == TOP) {
            return hasTopWith(letter);
        }
        if (isMember(kind) && hasMemberWith(outer, letter)) {
            return true;
        }
        Type t = outer;
        for (int steps = 0; t != null && steps < TYPE_LIMIT; steps++) {
            if (t.letter == letter) {
                return true;
            }
            t = t.outer;
        }
        return false;
    }

    private boolean hasTopWith(int letter) {
        for (int i = 0; i < typeCount; i++) {
            Type t = types[i];
            if (t != null && t.kind == TOP && t.letter == letter) {
                return true;
            }
        }
        return false;
    }

    private boolean hasMemberWith(Type outer, int letter) {
        for (int i = 0; i < typeCount; i++) {
            Type t = types[i];
            if (t != null && isMember(t.kind) && t.outer == outer && t.letter == letter) {
                return true;
            }
        }
        return false;
    }

    /**
     * The number in the class name of a type in a method. Types never go, so the numbers that
     * those before it have are 1, 2, 3 .. without a gap, and the least free one follows from how
     * many they are.
     */
    private int twinNumber(int kind, Type outer, int letter) {
        if (!standsInMethod(kind)) {
            return 0;
        }
        int number = 1;
        for (int i = 0; i < typeCount; i++) {
            Type t = types[i];
            if (t != null && standsInMethod(t.kind) && t.outer == outer && t.letter == letter) {
                number++;
            }
        }
        return number;
    }

    private boolean hasTypeInMethod(Type owner) {
        for (int i = 0; i < typeCount; i++) {
            Type t = types[i];
            if (t != null && standsInMethod(t.kind) && t.outer == owner) {
                return true;
            }
        }
        return false;
    }

    private static boolean isSameOrAbove(Type upper, Type lower) {
        Type t = lower;
        for (int steps = 0; t != null && steps < TYPE_LIMIT; steps++) {
            if (t == upper) {
                return true;
            }
            t = t.parentType;
        }
        return false;
    }

    // ---- making objects

    private int makeInto(int type, int around, int place) {
        Type made = typeAt(type);
        if (made == null || !isPlace(place)) {
            return BAD;
        }
        Thing near = null;
        if (made.isBound) {
            if (!isPlace(around)) {
                return BAD;
            }
            near = places[around];
            if (near == null) {
                return NULL;
            }
            if (near.levelOf(made.outer) == null) {
                return CAST;
            }
        }
        Level[] levels = levelsFor(made, near);
        if (levels == null) {
            return ALONE;
        }
        places[place] = new Thing(made, levels);
        madeCount++;
        return DONE;
    }

    private static int levelCount(Type first) {
        int levels = 0;
        for (Type t = first; t != null && levels < TYPE_LIMIT; t = t.parentType) {
            levels++;
        }
        return levels;
    }

    /** The levels of a new object from its own type upwards; null if one of them stands alone. */
    private static Level[] levelsFor(Type first, Thing near) {
        Level[] levels = new Level[levelCount(first)];
        Type t = first;
        for (int i = 0; i < levels.length && t != null; i++) {
            Thing around = null;
            if (t.isBound) {
                around = i == 0 ? near : nearestOf(t.outer, first, near);
                if (around == null) {
                    return null;
                }
            }
            levels[i] = new Level(t, around);
            t = t.parentType;
        }
        return levels;
    }

    /** Of near and what is around it, level by level as the text nests, the first of a type. */
    private static Thing nearestOf(Type wanted, Type first, Thing near) {
        Thing thing = near;
        Type t = first.outer;
        for (int steps = 0; thing != null && t != null && steps < TYPE_LIMIT; steps++) {
            if (thing.levelOf(wanted) != null) {
                return thing;
            }
            thing = thing.aroundAt(t);
            t = t.outer;
        }
        return null;
    }

    // ---- finding

    private int findFromPlace(int place, int name) {
        if (!isPlace(place) || !isName(name)) {
            return BAD;
        }
        Thing thing = places[place];
        if (thing == null) {
            return NOTHING;
        }
        return findFromType(thing.ownType, thing, name);
    }

    private int findFromLambda(int number, int name) {
        Lambda from = lambdaAt(number);
        if (from == null || !isName(name)) {
            return BAD;
        }
        Locals locals = from.home.locals;
        int index = locals.latest(name, from.copies.length);
        if (index == NOT_THERE) {
            return findFromType(from.home, from.kept, name);
        }
        if (locals.isAssigned(index)) {
            return ASSIGNED;
        }
        found.pointAt(from.copies, index, true);
        return DONE;
    }

    private int findFromType(Type start, Thing with, int name) {
        Type t = start;
        Thing thing = with;
        for (int steps = 0; t != null && steps < TYPE_LIMIT; steps++) {
            Type owner = ownerOfField(t, name);
            if (owner != null) {
                return findField(owner, thing, name);
            }
            int index = t.latestLocalAhead(name);
            if (index != NOT_THERE) {
                return findCopy(t, thing, index);
            }
            thing = thing == null ? null : thing.aroundAt(t);
            t = t.outer;
        }
        return UNKNOWN;
    }

    private static Type ownerOfField(Type lowest, int name) {
        Type t = lowest;
        for (int steps = 0; t != null && steps < TYPE_LIMIT; steps++) {
            if (t.fields.indexOf(name) != NOT_THERE) {
                return t;
            }
            t = t.parentType;
        }
        return null;
    }

    private int findField(Type owner, Thing thing, int name) {
        Fields fields = owner.fields;
        int index = fields.indexOf(name);
        if (fields.isStatic(index)) {
            found.pointAt(fields.values, index, false);
            return DONE;
        }
        if (thing == null) {
            return CUT;
        }
        Level level = thing.levelOf(owner);
        if (level == null || index >= level.cells.length) {
            return LATE;
        }
        found.pointAt(level.cells, index, false);
        return DONE;
    }

    private int findCopy(Type t, Thing thing, int index) {
        if (t.kind == RECORD) {
            return LOCKED;
        }
        if (t.outer != null && t.outer.locals.isAssigned(index)) {
            return ASSIGNED;
        }
        if (thing == null) {
            return CUT;
        }
        Level level = thing.levelOf(t);
        if (level == null || index >= level.copies.length) {
            return LATE;
        }
        found.pointAt(level.copies, index, true);
        return DONE;
    }

    private int holdThat(int place, int type, int to) {
        Type wanted = typeAt(type);
        if (!isPlace(place) || wanted == null || !isPlace(to)) {
            return BAD;
        }
        Thing thing = places[place];
        if (thing == null) {
            return NOTHING;
        }
        Type t = thing.ownType;
        for (int steps = 0; t != null && t != wanted && steps < TYPE_LIMIT; steps++) {
            thing = thing == null ? null : thing.aroundAt(t);
            t = t.outer;
        }
        if (t != wanted) {
            return UNKNOWN;
        }
        if (thing == null) {
            return CUT;
        }
        places[to] = thing;
        return DONE;
    }

    private static final class Type {
        final int number;
        final int kind;
        final Type outer;
        final int letter;
        /** How many locals of the outer type's method stand ahead of this type. */
        final int localsAhead;
        /** Fixed from the start: a method that a type stands in no longer changes. */
        final boolean isBound;
        final String className;
        final Fields fields = new Fields();
        final Locals locals = new Locals();
        boolean isMethodStatic = false;
        Type parentType = null;

        Type(int number, int kind, Type outer, int letter, int twin) {
            this.number = number;
            this.kind = kind;
            this.outer = outer;
            this.letter = letter;
            boolean inMethod = outer != null && standsInMethod(kind);
            this.localsAhead = inMethod ? outer.locals.size : 0;
            this.isBound = kind == INNER
                    || (inMethod && kind != RECORD && !outer.isMethodStatic);
            this.className = classNameOf(outer, letter, twin);
        }

        private static String classNameOf(Type outer, int letter, int twin) {
            StringBuilder text = new StringBuilder();
            if (outer != null) {
                text.append(outer.className);
                text.append('$');
            }
            if (twin > 0) {
                text.append(twin);
            }
            if (letter != NO_LETTER) {
                text.append((char) ('A' + letter));
            }
            return text.toString();
        }

        int latestLocalAhead(int name) {
            return outer == null ? NOT_THERE : outer.locals.latest(name, localsAhead);
        }

        /** What an object's level of this type keeps of the locals ahead, as they are now. */
        long[] copyLocalsAhead() {
            if (outer == null || kind == RECORD) {
                return NO_CELLS;
            }
            return outer.locals.copyOfFirst(localsAhead);
        }
    }

    private static final class Fields {
        final int[] names = new int[FIELD_LIMIT];
        /** The value of a static field; of another one what it is first in a new object. */
        final long[] values = new long[FIELD_LIMIT];
        final boolean[] statics = new boolean[FIELD_LIMIT];
        int size = 0;

        void add(int name, long v, boolean isStatic) {
            if (size >= FIELD_LIMIT) {
                return;
            }
            names[size] = name;
            values[size] = v;
            statics[size] = isStatic;
            size++;
        }

        boolean has(int index) {
            return index >= 0 && index < size;
        }

        boolean isStatic(int index) {
            return has(index) && statics[index];
        }

        int indexOf(int name) {
            for (int i = 0; i < size; i++) {
                if (names[i] == name) {
                    return i;
                }
            }
            return NOT_THERE;
        }

        /** A cell for every field, so that fields keep their index; static ones' are not used. */
        long[] firstCells() {
            return size <= 0 ? NO_CELLS : Arrays.copyOf(values, size);
        }
    }

    private static final class Locals {
        final int[] names = new int[LOCAL_LIMIT];
        final long[] values = new long[LOCAL_LIMIT];
        final boolean[] assigned = new boolean[LOCAL_LIMIT];
        int size = 0;

        void add(int name, long v) {
            if (size >= LOCAL_LIMIT) {
                return;
            }
            names[size] = name;
            values[size] = v;
            size++;
        }

        boolean has(int index) {
            return index >= 0 && index < size;
        }

        boolean isAssigned(int index) {
            return has(index) && assigned[index];
        }

        void set(int index, long v) {
            if (has(index)) {
                values[index] = v;
                assigned[index] = true;
            }
        }

        /** The latest of the first ones that has a name. */
        int latest(int name, int first) {
            for (int i = Math.min(first, size) - 1; i >= 0; i--) {
                if (names[i] == name) {
                    return i;
                }
            }
            return NOT_THERE;
        }

        long[] copyOfFirst(int first) {
            int length = Math.min(first, size);
            return length <= 0 ? NO_CELLS : Arrays.copyOf(values, length);
        }
    }

    /** An object: its levels go from its own type upwards, as the types were when it was made. */
    private static final class Thing {
        final Type ownType;
        final Level[] levels;

        Thing(Type ownType, Level[] levels) {
            this.ownType = ownType;
            this.levels = levels;
        }

        Level levelOf(Type wanted) {
            for (int i = 0; i < levels.length; i++) {
                if (levels[i] != null && levels[i].levelType == wanted) {
                    return levels[i];
                }
            }
            return null;
        }

        Thing aroundAt(Type t) {
            Level level = levelOf(t);
            return level == null ? null : level.around;
        }
    }

    private static final class Level {
        final Type levelType;
        /** Null if the type is not bound. */
        final Thing around;
        final long[] cells;
        final long[] copies;

        Level(Type levelType, Thing around) {
            this.levelType = levelType;
            this.around = around;
            this.cells = levelType.fields.firstCells();
            this.copies = levelType.copyLocalsAhead();
        }
    }

    private static final class Lambda {
        final Type home;
        /** Null if the method was static when the lambda was made. */
        final Thing kept;
        final long[] copies;

        Lambda(Type home, Thing kept, long[] copies) {
            this.home = home;
            this.kept = kept;
            this.copies = copies;
        }
    }

    /** Where a name was found last: one is used again and again, so that finding costs no room. */
    private static final class Cell {
        private long[] row = NO_CELLS;
        private int index = 0;
        boolean isCopy = false;

        void pointAt(long[] newRow, int newIndex, boolean copy) {
            row = newRow;
            index = newIndex;
            isCopy = copy;
        }

        private boolean isThere() {
            return row != null && index >= 0 && index < row.length;
        }

        long read() {
            return isThere() ? row[index] : 0L;
        }

        void write(long v) {
            if (isThere()) {
                row[index] = v;
            }
        }
    }
}
