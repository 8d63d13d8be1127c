/** The boundary cases that promises 9 to 13 and 16 name, a sentence at a time. */
public final class ObjectBoundsTest {
    private static final int BAD = -1, NONE = -3;
    private static final int NULL = 1, CAST = 2, ALONE = 3, CUT = 4, UNKNOWN = 8, NOTHING = 9;
    private static final int TOP = 0, STATIC = 1, INNER = 2, LOCAL = 3, RECORD = 4, UNNAMED = 5;
    private static final Due due = new Due();
    private static final Scene empty = Scene.empty(due);
    private static final Scene village = Scene.village(due);
    private static final Scene crowd = Scene.crowd(due);

    public static void main(String[] args) {
        numbersOfMake();
        aroundIsNotLookedAt();
        aroundIsLookedAt();
        nothingAround();
        notOfTheOuterType();
        alone();
        severalReasons();
        heldByAPlace();
        fieldsOfThen();
        copiesOfThen();
        levelsOfThen();
        nearestForAParent();
        atTheLevelOfTheText();
        fiveHundredAndTwelveCalls();
        numbersOfShare();
        shared();
        freed();
        numbersOfAbout();
        aboutTypesAndLevels();
        aboutWhatIsAround();
        aboutCopies();
        sameOrNot();
        numbersOfThat();
        thatIsFound();
        thatIsCutOff();
        thatIsUnknown();
        thatOfNothing();
        due.end();
    }

    // ---- promise 9

    private static void numbersOfMake() {
        due.promise(9, "BAD (of make() that was BAD, why() is that, too)");
        for (int type : Edges.wrong(9)) {
            village.refuses("type " + type, x -> x.make(type, 0, 7), BAD, BAD);
        }
        crowd.refuses("type 12", x -> x.make(12, 0, 0), BAD, BAD);
        for (int place : Edges.wrong(8)) {
            village.refuses("place " + place + " for a top", x -> x.make(0, 0, place), BAD, BAD);
            village.refuses("place " + place + " for an inner one", x -> x.make(1, 0, place), BAD, BAD);
            village.refuses("around " + place, x -> x.make(1, place, 7), BAD, BAD);
        }
        for (int place = 0; place < 8; place++) {
            InnerCaptures x = village.fresh();
            due.isFound("place " + place, x.make(0, 0, place), x, 0, 0);
            due.is("held", x.about(place, 0), 0);
        }
        InnerCaptures x = crowd.fresh();
        due.isFound("the last type", x.make(11, 0, 7), x, 0, 0);
    }

    private static void aroundIsNotLookedAt() {
        due.promise(9, "not looked at if it is not BOUND");
        for (int around : Edges.wrong(8)) {
            for (int type : new int[] {0, 3, 5, 6, 7}) {
                InnerCaptures x = village.fresh();
                due.isFound("type " + type + ", around " + around, x.make(type, around, 7), x, 0, 0);
                due.is("nothing around it", x.about(7, 2), NONE);
            }
        }
        for (int kind = TOP; kind <= UNNAMED; kind++) {
            InnerCaptures x = new InnerCaptures();
            x.type(TOP, 0, 0);
            x.method(0, true);
            x.type(kind, 0, 1);
            due.isFound("kind " + kind + " where the METHOD is STATIC", x.make(1, 7, 0), x,
                    kind == INNER ? NULL : 0, kind == INNER ? NULL : 0);
        }
    }

    private static void aroundIsLookedAt() {
        due.promise(9, "BOUND if it is INNER, or LOCAL or UNNAMED in a METHOD that is not STATIC");
        for (int kind = TOP; kind <= UNNAMED; kind++) {
            InnerCaptures x = new InnerCaptures();
            x.type(TOP, 0, 0);
            x.type(kind, 0, 1);
            boolean isBound = kind == INNER || kind == LOCAL || kind == UNNAMED;
            due.isFound("kind " + kind, x.make(1, 8, 1), x, isBound ? BAD : 0, isBound ? BAD : 0);
            due.isFound("kind " + kind, x.make(1, -1, 1), x, isBound ? BAD : 0, isBound ? BAD : 0);
            x.make(0, 0, 0);
            for (int around = 0; around < 8; around++) {
                x.share(0, around);
                x.make(1, around, 1);
                due.is("kind " + kind + " around " + around, x.about(1, 2), isBound ? 0 : NONE);
                x.free(1);
            }
        }
    }

    private static void nothingAround() {
        due.promise(9, "1 NULL: NOTHING");
        for (int type : new int[] {1, 2, 4, 8}) {
            village.refuses("type " + type, x -> x.make(type, 7, 0), NULL, NULL);
            village.refuses("type " + type + ", into the same place", x -> x.make(type, 7, 7), NULL, NULL);
        }
        InnerCaptures x = village.fresh();
        x.free(0);
        due.isFound("of what was freed", x.make(1, 0, 3), x, NULL, NULL);
        due.is("another one still holds its own", x.that(1, 0, 0), 0);
        due.isFound("of what is held again", x.make(1, 0, 3), x, 0, 0);
    }

    private static void notOfTheOuterType() {
        due.promise(9, "2 CAST: it IS not of the OUTER TYPE");
        for (int around : new int[] {1, 2, 3, 4, 5, 6}) {
            for (int type : new int[] {1, 2, 4}) {
                village.refuses("type " + type + " around " + around, x -> x.make(type, around, 7), CAST, CAST);
            }
        }
        for (int around : new int[] {0, 3, 4}) {
            village.refuses("type 8 around " + around, x -> x.make(8, around, 7), CAST, CAST);
        }
        for (int around : new int[] {1, 2, 5}) {
            InnerCaptures x = village.fresh();
            due.isFound("type 8 around what IS a 5, in " + around, x.make(8, around, 7), x, 0, 0);
        }
    }

    /** A type of kind INNER in a top, its parent INNER in another top. */
    private static InnerCaptures strangers() {
        InnerCaptures x = new InnerCaptures();
        x.type(TOP, 0, 0);
        x.type(INNER, 0, 1);
        x.type(TOP, 0, 2);
        x.type(INNER, 2, 3);
        x.parent(3, 1);
        x.make(0, 0, 0);
        x.make(2, 0, 2);
        return x;
    }

    private static void alone() {
        due.promise(9, "3 ALONE: none");
        Scene scene = new Scene(due, "a parent elsewhere", x -> {
            Scene.villageIn(x);
            x.type(TOP, 0, 9);
            x.parent(9, 1);
            x.type(INNER, 6, 10);
            x.parent(10, 4);
            x.make(6, 0, 7);
        });
        scene.refuses("of a top", x -> x.make(9, 0, 0), ALONE, ALONE);
        scene.refuses("of a top into a place that holds one", x -> x.make(9, 0, 7), ALONE, ALONE);
        scene.refuses("of an inner one", x -> x.make(10, 7, 0), ALONE, ALONE);
        Scene cut = new Scene(due, "the outer type is STATIC, further out stands one", x -> {
            Scene.villageIn(x);
            x.parent(8, 4);
        });
        cut.refuses("what is AROUND ends at the STATIC one", x -> x.make(8, 5, 7), ALONE, ALONE);
        InnerCaptures x = strangers();
        due.isFound("of an inner one in a stranger", x.make(3, 2, 3), x, ALONE, ALONE);
        x.parent(2, 0);
        due.isFound("what is around was made ahead of that", x.make(3, 2, 3), x, ALONE, ALONE);
        x.make(2, 0, 2);
        due.isFound("what is around IS of it now", x.make(3, 2, 3), x, 0, 0);
        InnerCaptures y = strangers();
        y.type(INNER, 2, 5);
        y.type(INNER, 2, 6);
        y.parent(4, 5);
        due.isFound("its only parent has one", y.make(4, 2, 3), y, 0, 0);
        y.parent(5, 1);
        due.isFound("the second of two has none", y.make(4, 2, 3), y, ALONE, ALONE);
        InnerCaptures z = strangers();
        z.type(INNER, 2, 5);
        z.parent(1, 4);
        due.isFound("the first of two has none", z.make(3, 2, 3), z, ALONE, ALONE);
    }

    private static void severalReasons() {
        due.promise(9, "of several the first here");
        Scene scene = new Scene(due, "a parent elsewhere", x -> {
            Scene.villageIn(x);
            x.type(INNER, 6, 10);
            x.parent(9, 4);
        });
        scene.refuses("BAD type ahead of 1", x -> x.make(10, 7, 0), BAD, BAD);
        scene.refuses("BAD place ahead of 1", x -> x.make(9, 7, 8), BAD, BAD);
        scene.refuses("BAD place ahead of 2", x -> x.make(9, 0, 8), BAD, BAD);
        scene.refuses("BAD place ahead of BAD around", x -> x.make(9, -1, 8), BAD, BAD);
        scene.refuses("1 ahead of 3", x -> x.make(9, 7, 0), NULL, NULL);
        scene.refuses("2 ahead of 3", x -> x.make(9, 0, 0), CAST, CAST);
        Scene lonely = new Scene(due, "3 and a BAD place", x -> {
            Scene.villageIn(x);
            x.type(TOP, 0, 9);
            x.parent(9, 1);
        });
        lonely.refuses("BAD place ahead of 3", x -> x.make(9, 0, 8), BAD, BAD);
        lonely.refuses("around is not looked at", x -> x.make(9, -1, 0), ALONE, ALONE);
    }

    private static void heldByAPlace() {
        due.promise(9, "An OBJECT is MADE, held by a PLACE");
        InnerCaptures x = village.fresh();
        int made = x.count(1);
        due.is("over another one", x.make(0, 0, 1), 0);
        due.is("its type", x.about(1, 0), 0);
        due.is("the other one is held elsewhere", x.about(6, 0), 1);
        due.is("made", x.count(1), made + 1);
        due.is("places", x.count(3), 7);
        due.is("into the place of what is around it", x.make(1, 0, 0), 0);
        due.is("its type", x.about(0, 0), 1);
        due.is("what is around it", x.about(0, 2), 0);
        due.is("into the last place", x.make(6, 0, 7), 0);
        due.is("places", x.count(3), 8);
    }

    private static void fieldsOfThen() {
        due.promise(9, "the TYPE's FIELDS that are not STATIC (those that it has then)");
        for (int fields = 0; fields <= 4; fields++) {
            InnerCaptures x = new InnerCaptures();
            x.type(TOP, 0, 0);
            for (int i = 0; i < 4; i++) {
                if (i == fields) {
                    x.make(0, 0, 0);
                }
                x.field(0, 7 - i, i + 10, false);
            }
            if (fields == 4) {
                x.make(0, 0, 0);
            }
            for (int i = 0; i < 4; i++) {
                boolean isThere = i < fields;
                due.isFound("field " + i + " of " + fields, x.see(0, 7 - i), x, isThere ? i + 10 : 0, isThere ? 0 : 5);
                due.isFound("put", x.put(0, 7 - i, i + 20), x, isThere ? 0 : 5, isThere ? 0 : 5);
            }
            x.make(0, 0, 1);
            for (int i = 0; i < 4; i++) {
                due.isFound("a new one's field " + i, x.see(1, 7 - i), x, i + 10, 0);
            }
        }
    }

    private static void copiesOfThen() {
        due.promise(9, "a copy of each LOCAL ahead of it, as it is then");
        InnerCaptures x = new InnerCaptures();
        x.type(TOP, 0, 0);
        for (int i = 0; i < 4; i++) {
            x.local(0, i, Edges.LONGS[i]);
        }
        x.type(LOCAL, 0, 1);
        x.type(UNNAMED, 0, 1);
        x.make(0, 0, 0);
        x.make(1, 0, 1);
        x.make(2, 0, 2);
        for (int place = 1; place <= 2; place++) {
            for (int i = 0; i < 4; i++) {
                due.isFound("copy " + i, x.see(place, i), x, Edges.LONGS[i], 0);
            }
        }
    }

    private static void levelsOfThen() {
        due.promise(9, "a LEVEL for that TYPE and each one ABOVE it (as they are when it is made)");
        InnerCaptures x = new InnerCaptures();
        for (int i = 0; i < 12; i++) {
            x.type(TOP, 0, i);
            x.field(i, i % 8, i, false);
        }
        for (int i = 0; i < 12; i++) {
            x.make(0, 0, 0);
            due.is("levels with " + i + " above", x.about(0, 1), i + 1);
            x.parent(i, i + 1);
            due.is("one more now is not its own", x.about(0, 1), i + 1);
            if (i < 7) {
                due.isFound("what the new one has is late", x.see(0, i + 1), x, 0, 5);
            }
        }
    }

    private static void nearestForAParent() {
        due.promise(9, "first it, then what is AROUND it: the first one that IS of that PARENT's OUTER TYPE");
        for (int depth = 1; depth <= 10; depth++) {
            InnerCaptures x = new InnerCaptures();
            x.type(TOP, 0, 0);
            x.make(0, 0, 0);
            for (int i = 1; i <= depth; i++) {
                x.type(INNER, i - 1, i);
                x.make(i, (i - 1) % 8, i % 8);
            }
            int parent = x.type(INNER, 0, 20);
            x.field(parent, 1, 5, false);
            x.parent(depth, parent);
            due.isFound("the top is " + depth + " out", x.make(depth, (depth - 1) % 8, depth % 8), x, 0, 0);
            due.isFound("its field above", x.see(depth % 8, 1), x, 5, 0);
        }
        InnerCaptures x = new InnerCaptures();
        x.type(TOP, 0, 0);
        x.field(0, 0, 1, false);
        x.type(INNER, 0, 1);
        x.type(INNER, 1, 2);
        x.type(INNER, 0, 3);
        x.type(INNER, 3, 4);
        x.parent(1, 0);
        x.parent(2, 3);
        x.make(0, 0, 0);
        x.make(1, 0, 1);
        x.put(0, 0, 10);
        x.put(1, 0, 11);
        due.isFound("made", x.make(2, 1, 2), x, 0, 0);
        due.isFound("in what IS a 3", x.make(4, 2, 3), x, 0, 0);
        due.isFound("outwards from the level of 3", x.see(3, 0), x, 11, 0);
        due.is("the nearer one", x.that(3, 0, 4), 0);
        due.is("the nearer one", x.same(4, 1), 1);
    }

    /** D in C IS a B in A: around it is a C at its first level, but an A at the level of B. */
    private static void atTheLevelOfTheText() {
        due.promise(9, "AROUND it at the LEVEL of the TYPE that stands there in the text");
        InnerCaptures x = new InnerCaptures();
        int a = x.type(TOP, 0, 0);
        int b = x.type(INNER, a, 1);
        int c = x.type(INNER, a, 2);
        int d = x.type(INNER, c, 3);
        x.parent(d, b);
        int inB = x.type(INNER, b, 4);
        int inC = x.type(INNER, c, 5);
        int inA = x.type(INNER, a, 6);
        x.field(c, 0, 1, false);
        x.make(a, 0, 0);
        x.make(c, 0, 1);
        due.isFound("a D", x.make(d, 1, 2), x, 0, 0);
        x.parent(inB, inC);
        due.isFound("the C is not seen from B", x.make(inB, 2, 3), x, ALONE, ALONE);
        int other = x.type(INNER, b, 7);
        x.parent(other, inA);
        due.isFound("the A is", x.make(other, 2, 3), x, 0, 0);
        due.isFound("that of A", x.that(3, a, 4), x, 0, 0);
        due.is("it is the A", x.same(4, 0), 1);
        due.isFound("that of C", x.that(3, c, 4), x, UNKNOWN, UNKNOWN);
        due.isFound("from the D it is the C", x.that(2, c, 4), x, 0, 0);
        due.is("it is the C", x.same(4, 1), 1);
    }

    private static void fiveHundredAndTwelveCalls() {
        due.promise(9, "An object is used for at most 512 calls after it has been made");
        InnerCaptures x = new InnerCaptures();
        for (int i = 0; i < 12; i++) {
            x.type(TOP, 0, i);
            x.parent(i, i - 1);
        }
        for (int call = 25; call < 512; call++) {
            int place = call % 8;
            if (x.make(11, 0, place) != 0) {
                due.is("call " + call, x.why(), 0);
            }
        }
        due.is("the 512th call", x.count(1), 487);
        InnerCaptures deep = new InnerCaptures();
        deep.type(TOP, 0, 0);
        deep.type(INNER, 0, 1);
        deep.parent(1, 0);
        deep.field(0, 0, 7, false);
        deep.make(0, 0, 0);
        for (int call = 6; call < 512; call++) {
            deep.make(1, 0, 0);
        }
        due.is("the 512th call, of a chain of objects around", deep.see(0, 0), 7);
    }

    // ---- promise 10

    private static void numbersOfShare() {
        due.promise(10, "BAD");
        for (int place : Edges.wrong(8)) {
            for (Scene scene : new Scene[] {empty, village, crowd}) {
                scene.refuses("from " + place, x -> x.share(place, 1), BAD);
                scene.refuses("to " + place, x -> x.share(1, place), BAD);
                scene.refuses("both " + place, x -> x.share(place, place), BAD);
            }
        }
    }

    private static void shared() {
        due.promise(10, "What a PLACE holds is held by another one, too (also NOTHING): 1, 0");
        for (int from = 0; from < 8; from++) {
            for (int to = 0; to < 8; to++) {
                InnerCaptures x = village.fresh();
                int type = x.about(from, 0);
                int why = x.why();
                due.is("share(" + from + ", " + to + ")", x.share(from, to), from == 7 ? 0 : 1);
                due.is("the same", x.same(from, to), 1);
                due.is("what it held", x.about(to, 0), type);
                due.is("still held", x.about(from, 0), type);
                due.is("places", x.count(3), from == 7 && to != 7 ? 6 : from != 7 && to == 7 ? 8 : 7);
                due.is("none is made", x.count(1), 6);
                due.is("why()", x.why(), why);
            }
        }
        InnerCaptures x = village.fresh();
        x.share(0, 7);
        x.put(7, 0, Long.MIN_VALUE);
        due.is("one object", x.see(0, 0), Long.MIN_VALUE);
        x.free(0);
        due.is("held by the other still", x.see(7, 0), Long.MIN_VALUE);
    }

    // ---- promise 11

    private static void freed() {
        due.promise(11, "A PLACE holds NOTHING: whether it held an OBJECT (1, 0). BAD");
        for (int place : Edges.wrong(8)) {
            empty.refuses("place " + place, x -> x.free(place), BAD);
            village.refuses("place " + place, x -> x.free(place), BAD);
            crowd.refuses("place " + place, x -> x.free(place), BAD);
        }
        for (int place = 0; place < 8; place++) {
            InnerCaptures x = crowd.fresh();
            int why = x.why();
            due.is("free(" + place + ")", x.free(place), 1);
            due.is("NOTHING", x.about(place, 0), NONE);
            due.is("places", x.count(3), 7);
            due.is("free(" + place + ") again", x.free(place), 0);
            due.is("places", x.count(3), 7);
            due.is("made", x.count(1), crowd.fresh().count(1));
            due.is("why()", x.why(), why);
        }
        InnerCaptures x = village.fresh();
        due.is("one of two that hold it", x.free(1), 1);
        due.is("the other one holds it", x.about(6, 0), 1);
        due.is("what is around another", x.free(0), 1);
        due.isFound("is there still", x.see(6, 0), x, 10, 0);
        due.isFound("and for a lambda", x.seen(0, 0), x, 10, 0);
    }

    // ---- promise 12

    private static void numbersOfAbout() {
        due.promise(12, "BAD; NONE: NOTHING");
        for (int what = 0; what < 4; what++) {
            int here = what;
            for (int place : Edges.wrong(8)) {
                village.refuses("about(" + place + ", " + what + ")", x -> x.about(place, here), BAD);
            }
            village.refuses("NOTHING, " + what, x -> x.about(7, here), NONE);
            empty.refuses("NOTHING, " + what, x -> x.about(0, here), NONE);
        }
        for (int what : Edges.wrong(4)) {
            village.refuses("what " + what, x -> x.about(0, what), BAD);
            village.refuses("BAD ahead of NONE, what " + what, x -> x.about(7, what), BAD);
        }
    }

    private static void aboutTypesAndLevels() {
        due.promise(12, "what = 0 its TYPE, 1 how many LEVELS");
        int[] types = {0, 1, 2, 3, 7, 5, 1, 11};
        int[] levels = {1, 2, 3, 1, 1, 1, 2, 1};
        InnerCaptures x = crowd.fresh();
        for (int place = 0; place < 8; place++) {
            due.is("type in " + place, x.about(place, 0), types[place]);
            due.is("levels in " + place, x.about(place, 1), levels[place]);
        }
    }

    private static void aboutWhatIsAround() {
        due.promise(12, "2 the TYPE of what is AROUND its first LEVEL (NONE)");
        int[] around = {NONE, 0, 0, NONE, NONE, NONE, 0, 0};
        InnerCaptures x = crowd.fresh();
        for (int place = 0; place < 8; place++) {
            due.is("around that in " + place, x.about(place, 2), around[place]);
        }
        x.make(8, 2, 0);
        due.is("its own type, not the one it IS of", x.about(0, 2), 2);
        InnerCaptures y = new InnerCaptures();
        y.type(TOP, 0, 0);
        y.type(INNER, 0, 1);
        y.type(STATIC, 0, 2);
        y.parent(0, 2);
        y.type(TOP, 0, 3);
        y.make(0, 0, 0);
        y.type(INNER, 0, 4);
        y.type(INNER, 4, 5);
        y.parent(5, 1);
        y.make(4, 0, 1);
        y.make(5, 1, 2);
        due.is("the first level's, not that of the one above", y.about(2, 2), 4);
        InnerCaptures z = new InnerCaptures();
        z.type(TOP, 0, 0);
        z.type(INNER, 0, 1);
        z.type(INNER, 1, 2);
        z.type(STATIC, 1, 3);
        z.parent(2, 3);
        z.make(0, 0, 0);
        z.make(1, 0, 1);
        z.make(2, 1, 2);
        due.is("with a static one above", z.about(2, 2), 1);
        z.make(3, 1, 3);
        due.is("of a static one", z.about(3, 2), NONE);
    }

    private static void aboutCopies() {
        due.promise(12, "3 copies there");
        int[] copies = {0, 0, 2, 0, 1, 0, 0, 0};
        InnerCaptures x = crowd.fresh();
        for (int place = 0; place < 8; place++) {
            due.is("copies in " + place, x.about(place, 3), copies[place]);
        }
        for (int kind = STATIC; kind <= UNNAMED; kind++) {
            InnerCaptures y = new InnerCaptures();
            y.type(TOP, 0, 0);
            for (int i = 0; i < 4; i++) {
                y.local(0, 0, i);
            }
            y.type(kind, 0, 1);
            y.type(INNER, 0, 2);
            y.make(0, 0, 0);
            y.make(1, 0, 1);
            due.is("of kind " + kind + " behind four", y.about(1, 3), kind == LOCAL || kind == UNNAMED ? 4 : 0);
            y.parent(2, 1);
            y.make(2, 0, 2);
            due.is("those above are not counted", y.about(2, 3), 0);
            y.assign(0, 0, 5);
            y.make(1, 0, 1);
            due.is("an ASSIGNED one, too", y.about(1, 3), kind == LOCAL || kind == UNNAMED ? 4 : 0);
        }
    }

    // ---- promise 13

    private static void sameOrNot() {
        due.promise(13, "Whether two PLACES hold the same OBJECT, or NOTHING both (1, 0). BAD");
        for (int place : Edges.wrong(8)) {
            empty.refuses("a " + place, x -> x.same(place, 0), BAD);
            empty.refuses("b " + place, x -> x.same(0, place), BAD);
            village.refuses("a " + place, x -> x.same(place, 7), BAD);
            village.refuses("b " + place, x -> x.same(7, place), BAD);
            village.refuses("both " + place, x -> x.same(place, place), BAD);
        }
        for (int a = 0; a < 8; a++) {
            for (int b = 0; b < 8; b++) {
                InnerCaptures x = village.fresh();
                boolean isSame = a == b || a + b == 7 && a * b == 6;
                due.is("same(" + a + ", " + b + ")", x.same(a, b), isSame ? 1 : 0);
                due.is("NOTHING both", empty.fresh().same(a, b), 1);
            }
        }
        InnerCaptures x = new InnerCaptures();
        x.type(TOP, 0, 0);
        x.make(0, 0, 0);
        x.make(0, 0, 1);
        due.is("two of a kind", x.same(0, 1), 0);
    }

    // ---- promise 16

    private static void numbersOfThat() {
        due.promise(16, "BAD. (why() tells the same.)");
        for (int wrong : Edges.wrong(8)) {
            village.refuses("place " + wrong, x -> x.that(wrong, 0, 7), BAD, BAD);
            village.refuses("to " + wrong, x -> x.that(0, 0, wrong), BAD, BAD);
            village.refuses("BAD ahead of 9, to " + wrong, x -> x.that(7, 0, wrong), BAD, BAD);
            village.refuses("BAD ahead of 8, to " + wrong, x -> x.that(0, 6, wrong), BAD, BAD);
            village.refuses("BAD ahead of 4, to " + wrong, x -> x.that(3, 0, wrong), BAD, BAD);
        }
        for (int type : Edges.wrong(9)) {
            village.refuses("type " + type, x -> x.that(0, type, 7), BAD, BAD);
            village.refuses("BAD ahead of 9, type " + type, x -> x.that(7, type, 7), BAD, BAD);
        }
        crowd.refuses("type 12", x -> x.that(0, 12, 7), BAD, BAD);
    }

    private static void thatIsFound() {
        due.promise(16, "THAT of a TYPE is held by another PLACE: 0");
        for (int to = 0; to < 8; to++) {
            InnerCaptures x = village.fresh();
            due.isFound("its own type, to " + to, x.that(2, 2, to), x, 0, 0);
            due.is("it is itself", x.same(to, 2), 1);
            InnerCaptures y = village.fresh();
            due.isFound("the outer type, to " + to, y.that(2, 0, to), y, 0, 0);
            due.is("it is what was around", y.same(to, 0), 1);
            due.is("none is made", y.count(1), 6);
            due.is("places", y.count(3), to == 7 ? 8 : 7);
        }
        InnerCaptures deep = new InnerCaptures();
        deep.type(TOP, 0, 0);
        for (int i = 1; i < 12; i++) {
            deep.type(INNER, i - 1, i);
        }
        deep.make(0, 0, 0);
        deep.share(0, 1);
        for (int i = 1; i < 12; i++) {
            deep.make(i, 0, 0);
        }
        for (int i = 11; i >= 0; i--) {
            due.isFound("that of " + i, deep.that(0, i, 2), deep, 0, 0);
            due.is("its type", deep.about(2, 0), i);
        }
        due.is("the outermost", deep.same(1, 2), 1);
    }

    private static void thatIsCutOff() {
        due.promise(16, "4: there is none");
        village.refuses("from a record", x -> x.that(3, 0, 7), CUT, CUT);
        village.refuses("from a local one in a STATIC METHOD", x -> x.that(4, 6, 7), CUT, CUT);
        village.refuses("from a static one", x -> x.that(5, 0, 7), CUT, CUT);
        Scene scene = new Scene(due, "within a static one", x -> {
            Scene.villageIn(x);
            x.make(8, 5, 7);
        });
        scene.refuses("further in", x -> x.that(7, 0, 7), CUT, CUT);
        InnerCaptures x = scene.fresh();
        due.isFound("up to there", x.that(7, 5, 7), x, 0, 0);
        Scene bound = new Scene(due, "a BOUND type on the way, but no OBJECT", y -> {
            Scene.villageIn(y);
            y.type(STATIC, 1, 10);
            y.make(9, 1, 7);
        });
        bound.refuses("the BOUND type", y -> y.that(7, 1, 7), CUT, CUT);
        bound.refuses("further out", y -> y.that(7, 0, 7), CUT, CUT);
        bound.refuses("no u", y -> y.that(7, 6, 7), UNKNOWN, UNKNOWN);
    }

    private static void thatIsUnknown() {
        due.promise(16, "8 no u");
        village.refuses("from a top", x -> x.that(0, 6, 7), UNKNOWN, UNKNOWN);
        village.refuses("a type within", x -> x.that(0, 1, 7), UNKNOWN, UNKNOWN);
        village.refuses("a type beside", x -> x.that(1, 2, 7), UNKNOWN, UNKNOWN);
        village.refuses("a type above", x -> x.that(2, 1, 7), UNKNOWN, UNKNOWN);
        village.refuses("also behind a cut", x -> x.that(3, 6, 7), UNKNOWN, UNKNOWN);
        village.refuses("into a place that holds one", x -> x.that(1, 2, 0), UNKNOWN, UNKNOWN);
    }

    private static void thatOfNothing() {
        due.promise(16, "9 NOTHING");
        for (int type = 0; type < 9; type++) {
            int here = type;
            village.refuses("type " + type, x -> x.that(7, here, 0), NOTHING, NOTHING);
            village.refuses("into itself", x -> x.that(7, here, 7), NOTHING, NOTHING);
        }
        empty.refuses("no type at all", x -> x.that(0, 0, 0), BAD, BAD);
    }
}
