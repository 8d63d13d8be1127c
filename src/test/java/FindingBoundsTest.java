import java.util.function.Consumer;

/** The boundary cases that promises 14, 15, 17 and 20 name, a sentence at a time. */
public final class FindingBoundsTest {
    private static final int BAD = -1, TAKEN = -4;
    private static final int NULL = 1, CAST = 2, ALONE = 3, CUT = 4, LATE = 5, LOCKED = 6, ASSIGNED = 7,
            UNKNOWN = 8, NOTHING = 9;
    private static final int TOP = 0, STATIC = 1, INNER = 2, LOCAL = 3, RECORD = 4, UNNAMED = 5;
    private static final Due due = new Due();
    private static final Scene empty = Scene.empty(due);
    private static final Scene village = Scene.village(due);
    private static final Scene crowd = Scene.crowd(due);

    public static void main(String[] args) {
        numbersOfSee();
        seeNothing();
        seeValues();
        fieldsAtEveryHeight();
        staticOnesNeedNoObject();
        cutFields();
        lateFields();
        lateLevels();
        latestLocals();
        locked();
        assigned();
        cutCopies();
        orderOfReasons();
        outwards();
        unknown();
        numbersOfPut();
        putValues();
        putRefused();
        putCopies();
        putStatics();
        numbersOfConstant();
        constantOfEach();
        constantValues();
        whyAtFirst();
        whyOfEach();
        whyIsLeft();
        due.end();
    }

    /** A name that is not found: see and put both tell why, and neither changes anything. */
    private static void isRefused(Scene scene, String what, int place, int name, int why) {
        due.promise(14, "A number that is FOUND is told, or 0: why() " + why);
        scene.refuses("see: " + what, x -> x.see(place, name), 0, why);
        due.promise(15, "4 to 9 as see(): " + why);
        scene.refuses("put: " + what, x -> x.put(place, name, 77), why, why);
    }

    private static Scene sceneOf(String title, Consumer<InnerCaptures> calls) {
        return new Scene(due, title, calls);
    }

    // ---- promise 14

    private static void numbersOfSee() {
        for (int wrong : Edges.wrong(8)) {
            due.promise(14, "why() BAD: PLACE, NAME");
            empty.refuses("place " + wrong, x -> x.see(wrong, 0), 0, BAD);
            empty.refuses("BAD name ahead of 9, " + wrong, x -> x.see(0, wrong), 0, BAD);
            village.refuses("place " + wrong, x -> x.see(wrong, 0), 0, BAD);
            village.refuses("name " + wrong, x -> x.see(0, wrong), 0, BAD);
            village.refuses("BAD name ahead of 9, " + wrong, x -> x.see(7, wrong), 0, BAD);
            village.refuses("both " + wrong, x -> x.see(wrong, wrong), 0, BAD);
        }
        due.promise(14, "PLACES 0 .. 7, NAME 0 .. 7");
        for (int i = 0; i < 8; i++) {
            InnerCaptures x = new InnerCaptures();
            x.type(TOP, 0, 0);
            x.field(0, i, 5, false);
            x.make(0, 0, i);
            due.isFound("see(" + i + ", " + i + ")", x.see(i, i), x, 5, 0);
        }
    }

    private static void seeNothing() {
        for (int name = 0; name < 8; name++) {
            isRefused(village, "NOTHING", 7, name, NOTHING);
            isRefused(empty, "NOTHING", 7 - name, name, NOTHING);
        }
        due.promise(14, "why() 9: NOTHING");
        InnerCaptures x = village.fresh();
        x.free(0);
        due.isFound("what was freed", x.see(0, 0), x, 0, NOTHING);
    }

    private static void seeValues() {
        due.promise(14, "A number that is FOUND is told");
        for (long v : Edges.LONGS) {
            InnerCaptures x = new InnerCaptures();
            x.type(TOP, 0, 0);
            x.field(0, 0, v, false);
            x.field(0, 1, v, true);
            x.local(0, 2, v);
            x.type(UNNAMED, 0, 0);
            x.make(0, 0, 0);
            x.make(1, 0, 1);
            for (int name = 0; name < 3; name++) {
                due.isFound("name " + name + " is " + v, x.see(1, name), x, v, 0);
            }
        }
    }

    private static void fieldsAtEveryHeight() {
        due.promise(14, "(a) a FIELD of it of t, else of the nearest TYPE ABOVE it that has one");
        for (int height = 0; height < 12; height++) {
            for (int further = height; further < 12; further++) {
                InnerCaptures x = new InnerCaptures();
                for (int i = 0; i < 12; i++) {
                    x.type(TOP, 0, i);
                    x.parent(i - 1, i);
                }
                x.field(height, 0, 5, false);
                x.field(further, 0, 6, false);
                x.field(height, 1, 7, true);
                x.field(further, 1, 8, true);
                x.make(0, 0, 0);
                due.isFound("field at " + height + " ahead of " + further, x.see(0, 0), x, 5, 0);
                due.isFound("static at " + height + " ahead of " + further, x.see(0, 1), x, 7, 0);
            }
        }
    }

    private static void staticOnesNeedNoObject() {
        due.promise(14, "a STATIC one's value");
        InnerCaptures x = village.fresh();
        for (int place : new int[] {0, 1, 2, 3, 5, 6}) {
            due.isFound("without an object or with one, from " + place, x.see(place, 1), x, 11, 0);
        }
        x.field(0, 7, 17, true);
        due.isFound("one that came later", x.see(0, 7), x, 17, 0);
        due.isFound("one that came later, without an object", x.see(5, 7), x, 17, 0);
        x.parent(5, 6);
        x.field(6, 2, 18, true);
        due.isFound("at a level that is not there", x.see(5, 2), x, 18, 0);
    }

    private static void cutFields() {
        isRefused(village, "from a record", 3, 0, CUT);
        isRefused(village, "from a static one", 5, 0, CUT);
        Scene scene = sceneOf("a local one in a STATIC METHOD", x -> {
            x.type(TOP, 0, 0);
            x.field(0, 0, 1, false);
            x.method(0, true);
            x.type(LOCAL, 0, 1);
            x.type(UNNAMED, 0, 1);
            x.type(INNER, 1, 2);
            x.make(1, 0, 1);
            x.make(2, 0, 2);
            x.make(3, 1, 3);
        });
        for (int place = 1; place <= 3; place++) {
            isRefused(scene, "from " + place, place, 0, CUT);
        }
        Scene above = sceneOf("a field above the outer one", x -> {
            x.type(TOP, 0, 0);
            x.type(TOP, 0, 1);
            x.parent(0, 1);
            x.field(1, 0, 1, false);
            x.type(STATIC, 0, 2);
            x.make(2, 0, 0);
        });
        isRefused(above, "from the static one", 0, 0, CUT);
        Scene bound = sceneOf("a BOUND type on the way, but no OBJECT (there was none)", x -> {
            x.type(TOP, 0, 0);
            x.field(0, 0, 1, false);
            x.type(INNER, 0, 1);
            x.field(1, 1, 2, false);
            x.type(STATIC, 1, 2);
            x.type(INNER, 2, 3);
            x.make(0, 0, 0);
            x.make(1, 0, 1);
            x.make(2, 1, 2);
            x.make(3, 2, 3);
        });
        for (int place = 2; place <= 3; place++) {
            isRefused(bound, "a field of the BOUND type", place, 1, CUT);
            isRefused(bound, "a field further out", place, 0, CUT);
            isRefused(bound, "nowhere", place, 7, UNKNOWN);
        }
    }

    private static void lateFields() {
        Scene scene = sceneOf("a field that came later", x -> {
            Scene.villageIn(x);
            x.field(0, 7, 1, false);
            x.field(1, 0, 2, false);
        });
        isRefused(scene, "its own", 0, 7, LATE);
        isRefused(scene, "of what is around", 1, 7, LATE);
        isRefused(scene, "hides what is around", 1, 0, LATE);
        isRefused(scene, "above", 2, 0, LATE);
        InnerCaptures x = scene.fresh();
        x.make(0, 0, 0);
        due.isFound("a new one has it", x.see(0, 7), x, 1, 0);
        due.isFound("what is around still has not", x.see(1, 7), x, 0, LATE);
    }

    private static void lateLevels() {
        Scene scene = sceneOf("a level that came later", x -> {
            Scene.villageIn(x);
            x.parent(5, 6);
            x.field(6, 7, 1, false);
            x.parent(0, 4);
            x.field(4, 2, 3, false);
        });
        isRefused(scene, "its own", 5, 7, LATE);
        isRefused(scene, "two above", 2, 7, LATE);
        isRefused(scene, "of what is around", 1, 2, LATE);
        InnerCaptures x = scene.fresh();
        x.make(5, 0, 5);
        due.isFound("a new one has it", x.see(5, 7), x, 1, 0);
    }

    private static void latestLocals() {
        due.promise(14, "(b) if t stands in a METHOD, the latest LOCAL of that NAME ahead of it");
        for (int ahead = 1; ahead <= 4; ahead++) {
            for (int kind = LOCAL; kind <= UNNAMED; kind += 2) {
                InnerCaptures x = new InnerCaptures();
                x.type(TOP, 0, 0);
                x.field(0, 0, 99, false);
                x.type(kind, 0, 1);
                for (int i = 1; i <= ahead; i++) {
                    x.local(0, 0, i);
                }
                x.type(kind, 0, 1);
                x.local(0, 0, 50);
                x.make(0, 0, 0);
                x.make(1, 0, 1);
                x.make(2, 0, 2);
                due.isFound("none ahead: the field around", x.see(1, 0), x, 99, 0);
                due.isFound("the latest of " + ahead, x.see(2, 0), x, ahead, 0);
                x.field(2, 0, 77, true);
                due.isFound("a field of its own ahead of it", x.see(2, 0), x, 77, 0);
            }
        }
        for (int kind = STATIC; kind <= INNER; kind++) {
            InnerCaptures x = new InnerCaptures();
            x.type(TOP, 0, 0);
            x.local(0, 0, 1);
            x.type(kind, 0, 1);
            x.make(0, 0, 0);
            x.make(1, 0, 1);
            due.isFound("kind " + kind + " stands in none", x.see(1, 0), x, 0, UNKNOWN);
        }
    }

    private static void locked() {
        isRefused(village, "a record", 3, 2, LOCKED);
        isRefused(village, "a record, of an ASSIGNED one", 3, 3, LOCKED);
        Scene scene = sceneOf("within a record", x -> {
            Scene.villageIn(x);
            x.type(INNER, 3, 10);
            x.type(STATIC, 3, 11);
            x.make(9, 3, 6);
            x.make(10, 0, 7);
            x.local(0, 7, 1);
        });
        isRefused(scene, "an inner one", 6, 2, LOCKED);
        isRefused(scene, "a static one, 6 ahead of 4", 7, 2, LOCKED);
        isRefused(scene, "a local behind it is none of its own", 3, 7, UNKNOWN);
    }

    private static void assigned() {
        isRefused(village, "an ASSIGNED local", 2, 3, ASSIGNED);
        Scene scene = sceneOf("of two with one name", x -> {
            x.type(TOP, 0, 0);
            x.local(0, 0, 1);
            x.local(0, 0, 2);
            x.local(0, 1, 3);
            x.local(0, 1, 4);
            x.type(LOCAL, 0, 1);
            x.type(INNER, 1, 2);
            x.make(0, 0, 0);
            x.make(1, 0, 1);
            x.make(2, 1, 2);
            x.assign(0, 0, 9);
            x.assign(0, 3, 9);
        });
        isRefused(scene, "the latest one is", 1, 1, ASSIGNED);
        isRefused(scene, "from within", 2, 1, ASSIGNED);
        due.promise(14, "7 ASSIGNED: it is that");
        InnerCaptures x = scene.fresh();
        due.isFound("an earlier one is", x.see(1, 0), x, 2, 0);
    }

    private static void cutCopies() {
        Scene scene = sceneOf("a static one in a local one", x -> {
            x.type(TOP, 0, 0);
            x.local(0, 0, 1);
            x.local(0, 1, 2);
            x.type(LOCAL, 0, 1);
            x.type(STATIC, 1, 2);
            x.type(UNNAMED, 0, 2);
            x.type(RECORD, 3, 3);
            x.assign(0, 1, 5);
            x.make(2, 0, 2);
            x.make(4, 0, 4);
        });
        isRefused(scene, "no OBJECT with a copy", 2, 0, CUT);
        isRefused(scene, "no OBJECT with a copy, from a record", 4, 0, CUT);
        isRefused(scene, "7 ahead of 4", 2, 1, ASSIGNED);
        isRefused(scene, "7 ahead of 4, from a record", 4, 1, ASSIGNED);
    }

    private static void orderOfReasons() {
        Scene scene = sceneOf("a field and a local of one name", x -> {
            x.type(TOP, 0, 0);
            x.local(0, 0, 1);
            x.type(RECORD, 0, 1);
            x.type(LOCAL, 0, 2);
            x.type(STATIC, 1, 3);
            x.type(STATIC, 2, 4);
            x.assign(0, 0, 2);
            x.make(0, 0, 0);
            x.make(1, 0, 1);
            x.make(2, 0, 2);
            x.make(3, 0, 3);
            x.make(4, 0, 4);
            x.field(1, 0, 5, false);
            x.field(2, 0, 6, false);
        });
        isRefused(scene, "the field ahead of 6", 1, 0, LATE);
        isRefused(scene, "the field ahead of 7", 2, 0, LATE);
        isRefused(scene, "4 of the field ahead of 6", 3, 0, CUT);
        isRefused(scene, "4 of the field ahead of 7", 4, 0, CUT);
    }

    private static void outwards() {
        due.promise(14, "(c) else from the OUTER TYPE, with the OBJECT AROUND at the LEVEL of t");
        for (int depth = 1; depth < 12; depth++) {
            InnerCaptures x = new InnerCaptures();
            x.type(TOP, 0, 0);
            x.field(0, 0, 5, false);
            x.field(0, 1, 6, true);
            x.make(0, 0, 0);
            for (int i = 1; i <= depth; i++) {
                x.type(i % 3 == 0 ? UNNAMED : i % 3 == 1 ? INNER : LOCAL, i - 1, i);
                x.make(i, 0, 0);
            }
            due.isFound(depth + " out", x.see(0, 0), x, 5, 0);
            due.isFound(depth + " out, static", x.see(0, 1), x, 6, 0);
            due.isFound(depth + " out, nowhere", x.see(0, 7), x, 0, UNKNOWN);
            due.isFound("put " + depth + " out", x.put(0, 0, 7), x, 0, 0);
            due.isFound("it is", x.see(0, 0), x, 7, 0);
        }
        InnerCaptures x = new InnerCaptures();
        x.type(TOP, 0, 0);
        x.type(INNER, 0, 1);
        x.type(INNER, 0, 2);
        x.type(INNER, 2, 3);
        x.parent(3, 1);
        x.type(INNER, 1, 4);
        x.field(0, 0, 10, false);
        x.field(2, 0, 12, false);
        x.make(0, 0, 0);
        x.make(2, 0, 1);
        x.make(3, 1, 2);
        x.make(4, 2, 3);
        due.isFound("from a 3 it is the 2 around its first level", x.see(2, 0), x, 12, 0);
        due.isFound("from a 4 it is the 0 around the level of 1", x.see(3, 0), x, 10, 0);
    }

    private static void unknown() {
        isRefused(village, "nowhere, from a top", 0, 7, UNKNOWN);
        isRefused(village, "nowhere, from an inner one", 1, 7, UNKNOWN);
        isRefused(village, "nowhere, from a record", 3, 7, UNKNOWN);
        isRefused(village, "a field within", 0, 4, UNKNOWN);
        isRefused(village, "a field below", 5, 4, UNKNOWN);
        isRefused(village, "its own METHOD's local", 0, 2, UNKNOWN);
    }

    // ---- promise 15

    private static void numbersOfPut() {
        due.promise(15, "BAD. (why() tells the same.)");
        for (int wrong : Edges.wrong(8)) {
            village.refuses("place " + wrong, x -> x.put(wrong, 0, 1), BAD, BAD);
            village.refuses("name " + wrong, x -> x.put(0, wrong, 1), BAD, BAD);
            village.refuses("BAD name ahead of 9, " + wrong, x -> x.put(7, wrong, 1), BAD, BAD);
            empty.refuses("BAD name ahead of 9, " + wrong, x -> x.put(0, wrong, 1), BAD, BAD);
        }
        for (int i = 0; i < 8; i++) {
            InnerCaptures x = new InnerCaptures();
            x.type(TOP, 0, 0);
            x.field(0, i, 5, false);
            x.make(0, 0, i);
            due.isFound("put(" + i + ", " + i + ", 6)", x.put(i, i, 6), x, 0, 0);
            due.isFound("it is", x.see(i, i), x, 6, 0);
        }
    }

    private static void putValues() {
        due.promise(15, "The FIELD that a NAME is FOUND to be becomes v: 0");
        for (long v : Edges.LONGS) {
            InnerCaptures x = crowd.fresh();
            due.isFound("its own, " + v, x.put(0, 0, v), x, 0, 0);
            due.isFound("seen", x.see(0, 0), x, v, 0);
            due.isFound("seen from within", x.see(1, 0), x, v, 0);
            due.isFound("static, from within, " + v, x.put(3, 1, v), x, 0, 0);
            due.isFound("seen", x.see(0, 1), x, v, 0);
            due.isFound("constant", x.constant(0, 1), x, v, 0);
            due.isFound("above, " + v, x.put(2, 5, v), x, 0, 0);
            due.isFound("seen", x.see(2, 5), x, v, 0);
            due.isFound("of that object alone", x.see(1, 5), x, 13, 0);
            due.isFound("its last field, " + v, x.put(0, 7, v), x, 0, 0);
            due.isFound("seen", x.constant(0, 3), x, v, 0);
            x.make(0, 0, 0);
            due.isFound("a first value stays", x.see(0, 0), x, 10, 0);
        }
    }

    private static void putRefused() {
        due.promise(15, "What is refused changes nothing, also behind a see that has found one");
        Scene scene = sceneOf("behind a see", x -> {
            Scene.villageIn(x);
            x.see(0, 0);
        });
        scene.refuses("9", x -> x.put(7, 0, 1), NOTHING, NOTHING);
        scene.refuses("8", x -> x.put(0, 7, 1), UNKNOWN, UNKNOWN);
        scene.refuses("6", x -> x.put(3, 2, 1), LOCKED, LOCKED);
        scene.refuses("4", x -> x.put(3, 0, 1), CUT, CUT);
        scene.refuses("BAD", x -> x.put(8, 0, 1), BAD, BAD);
    }

    private static void putCopies() {
        due.promise(15, "7 also where that tells a copy");
        for (long v : new long[] {Long.MIN_VALUE, 20, Long.MAX_VALUE}) {
            village.refuses("its own copy, " + v, x -> x.put(2, 2, v), ASSIGNED, ASSIGNED);
        }
        village.refuses("a copy in a STATIC METHOD", x -> x.put(4, 4, 1), ASSIGNED, ASSIGNED);
        Scene scene = sceneOf("a copy of what is around", x -> {
            Scene.villageIn(x);
            x.type(INNER, 2, 10);
            x.make(9, 2, 7);
        });
        scene.refuses("from within", x -> x.put(7, 2, 1), ASSIGNED, ASSIGNED);
        InnerCaptures x = scene.fresh();
        due.isFound("put", x.put(7, 2, 1), x, ASSIGNED, ASSIGNED);
        due.isFound("the copy is as it was", x.see(7, 2), x, 20, 0);
        due.is("the local is not ASSIGNED by that", x.assign(0, 0, 1), 0);
        InnerCaptures y = village.fresh();
        y.see(2, 2);
        due.isFound("a field behind a copy", y.put(0, 0, 5), y, 0, 0);
        due.isFound("it is", y.see(0, 0), y, 5, 0);
        due.isFound("the copy is as it was", y.see(2, 2), y, 20, 0);
    }

    private static void putStatics() {
        due.promise(15, "of a STATIC FIELD there is one, whoever puts it");
        InnerCaptures x = village.fresh();
        for (int place : new int[] {0, 1, 2, 3, 5, 6}) {
            due.isFound("put from " + place, x.put(place, 1, place + 100), x, 0, 0);
            due.isFound("seen from a record", x.see(3, 1), x, place + 100, 0);
            due.isFound("constant", x.constant(0, 1), x, place + 100, 0);
        }
        x.make(0, 0, 7);
        due.isFound("a new object changes nothing of it", x.see(7, 1), x, 106, 0);
    }

    // ---- promise 17

    private static void numbersOfConstant() {
        due.promise(17, "why() BAD: there is none such, or it is not STATIC; 0");
        for (int type : Edges.wrong(9)) {
            village.refuses("type " + type, x -> x.constant(type, 0), 0, BAD);
        }
        crowd.refuses("type 12", x -> x.constant(12, 0), 0, BAD);
        for (int i : Edges.wrong(2)) {
            village.refuses("field " + i + " of two", x -> x.constant(0, i), 0, BAD);
        }
        for (int i : Edges.wrong(4)) {
            crowd.refuses("field " + i + " of four", x -> x.constant(0, i), 0, BAD);
        }
        village.refuses("the first of none", x -> x.constant(8, 0), 0, BAD);
        village.refuses("not STATIC", x -> x.constant(0, 0), 0, BAD);
        crowd.refuses("not STATIC", x -> x.constant(0, 2), 0, BAD);
        village.refuses("STATIC above, not its own", x -> x.constant(1, 1), 0, BAD);
    }

    private static void constantOfEach() {
        due.promise(17, "number i as they came");
        for (int statics = 0; statics < 16; statics++) {
            InnerCaptures x = new InnerCaptures();
            x.type(TOP, 0, 0);
            for (int i = 0; i < 4; i++) {
                x.field(0, 7 - 2 * i, i + 10, (statics >> i & 1) == 1);
            }
            for (int i = 0; i < 4; i++) {
                boolean isStatic = (statics >> i & 1) == 1;
                due.isFound("field " + i + " of " + statics, x.constant(0, i), x, isStatic ? i + 10 : 0, isStatic ? 0 : BAD);
            }
        }
    }

    private static void constantValues() {
        due.promise(17, "The value of a STATIC FIELD");
        for (long v : Edges.LONGS) {
            InnerCaptures x = crowd.fresh();
            x.field(11, 0, v, true);
            due.isFound("as it came, " + v, x.constant(11, 0), x, v, 0);
            x.put(7, 0, ~v);
            due.isFound("as it was put, " + ~v, x.constant(11, 0), x, ~v, 0);
        }
    }

    // ---- promise 20

    private static void whyAtFirst() {
        due.promise(20, "0: there was none");
        InnerCaptures x = new InnerCaptures();
        due.is("new", x.why(), 0);
        due.is("again", x.why(), 0);
        x.type(TOP, 0, 0);
        x.type(TOP, 0, 0);
        x.count(9);
        x.lambda(0, 0);
        due.is("of calls that it does not tell of", x.why(), 0);
        new InnerCaptures().see(0, 0);
        due.is("of another object", x.why(), 0);
    }

    private static void whyOfEach() {
        due.promise(20, "What came of the latest make(), see(), put(), that(), constant(), seen()");
        InnerCaptures x = village.fresh();
        x.type(TOP, 0, 9);
        x.parent(9, 1);
        due.isFound("make 0", x.make(0, 0, 0), x, 0, 0);
        due.isFound("make 1", x.make(1, 7, 7), x, NULL, NULL);
        due.isFound("make 2", x.make(1, 1, 7), x, CAST, CAST);
        due.isFound("make 3", x.make(9, 0, 7), x, ALONE, ALONE);
        due.isFound("make BAD", x.make(99, 0, 7), x, BAD, BAD);
        due.isFound("see 0", x.see(0, 0), x, 10, 0);
        due.isFound("see 4", x.see(3, 0), x, 0, CUT);
        x.field(1, 7, 1, false);
        due.isFound("see 5", x.see(1, 7), x, 0, LATE);
        due.isFound("see 6", x.see(3, 2), x, 0, LOCKED);
        due.isFound("see 7", x.see(2, 3), x, 0, ASSIGNED);
        due.isFound("see 8", x.see(0, 7), x, 0, UNKNOWN);
        due.isFound("see 9", x.see(7, 0), x, 0, NOTHING);
        due.isFound("see BAD", x.see(8, 0), x, 0, BAD);
        due.isFound("put 0", x.put(0, 0, 1), x, 0, 0);
        due.isFound("put 4", x.put(3, 0, 1), x, CUT, CUT);
        due.isFound("put 5", x.put(1, 7, 1), x, LATE, LATE);
        due.isFound("put 6", x.put(3, 2, 1), x, LOCKED, LOCKED);
        due.isFound("put 7", x.put(2, 3, 1), x, ASSIGNED, ASSIGNED);
        due.isFound("put 8", x.put(0, 7, 1), x, UNKNOWN, UNKNOWN);
        due.isFound("put 9", x.put(7, 0, 1), x, NOTHING, NOTHING);
        due.isFound("put BAD", x.put(0, 8, 1), x, BAD, BAD);
        due.isFound("that 0", x.that(1, 0, 7), x, 0, 0);
        due.isFound("that 4", x.that(3, 0, 7), x, CUT, CUT);
        due.isFound("that 8", x.that(0, 1, 7), x, UNKNOWN, UNKNOWN);
        x.free(7);
        due.isFound("that 9", x.that(7, 0, 7), x, NOTHING, NOTHING);
        due.isFound("that BAD", x.that(0, 99, 7), x, BAD, BAD);
        due.isFound("constant 0", x.constant(0, 1), x, 11, 0);
        due.isFound("constant BAD", x.constant(0, 0), x, 0, BAD);
        due.isFound("seen 0", x.seen(0, 2), x, 20, 0);
        due.isFound("seen 7", x.seen(0, 3), x, 0, ASSIGNED);
        due.isFound("seen 8", x.seen(0, 7), x, 0, UNKNOWN);
        due.isFound("seen BAD", x.seen(2, 0), x, 0, BAD);
        due.is("asked twice", x.why(), BAD);
        x.put(0, 0, 0);
        x.see(7, 0);
        due.isFound("a 0 that is found", x.see(0, 0), x, 0, 0);
    }

    private static void leaves(InnerCaptures x, String call, long got, long want) {
        due.is(call, got, want);
        due.is("why() behind " + call, x.why(), NOTHING);
    }

    private static void whyIsLeft() {
        due.promise(20, "what came of the latest of these six, not of another call");
        InnerCaptures x = village.fresh();
        due.is("the village's last see", x.why(), NOTHING);
        leaves(x, "type", x.type(TOP, 0, 20), 9);
        leaves(x, "type BAD", x.type(9, 0, 20), BAD);
        leaves(x, "type TAKEN", x.type(TOP, 0, 20), TAKEN);
        leaves(x, "field", x.field(0, 7, 1, false), 3);
        leaves(x, "field BAD", x.field(0, 8, 1, false), BAD);
        leaves(x, "local", x.local(0, 7, 1), 3);
        leaves(x, "local BAD", x.local(0, 8, 1), BAD);
        leaves(x, "assign", x.assign(0, 0, 1), 0);
        leaves(x, "assign BAD", x.assign(0, 4, 1), BAD);
        leaves(x, "method", x.method(9, true), 0);
        leaves(x, "method TAKEN", x.method(0, true), TAKEN);
        leaves(x, "parent", x.parent(9, 0), 1);
        leaves(x, "parent TAKEN", x.parent(9, 0), TAKEN);
        leaves(x, "name", x.name(0, 0), 65);
        leaves(x, "name BAD", x.name(0, 1), BAD);
        leaves(x, "share", x.share(0, 7), 1);
        leaves(x, "share BAD", x.share(0, 8), BAD);
        leaves(x, "free", x.free(7), 1);
        leaves(x, "free BAD", x.free(8), BAD);
        leaves(x, "about", x.about(0, 0), 0);
        leaves(x, "about BAD", x.about(0, 4), BAD);
        leaves(x, "same", x.same(0, 0), 1);
        leaves(x, "same BAD", x.same(0, 8), BAD);
        leaves(x, "lambda", x.lambda(0, 0), 2);
        leaves(x, "lambda BAD", x.lambda(0, 9), BAD);
        leaves(x, "count", x.count(0), 10);
        leaves(x, "count BAD", x.count(4), BAD);
    }
}
