/** The boundary cases that promises 1 to 8 name, a sentence at a time. */
public final class TypeBoundsTest {
    private static final int BAD = -1, FULL = -2, NONE = -3, TAKEN = -4;
    private static final int TOP = 0, STATIC = 1, INNER = 2, LOCAL = 3, RECORD = 4, UNNAMED = 5;
    private static final Due due = new Due();
    private static final Scene empty = Scene.empty(due);
    private static final Scene village = Scene.village(due);
    private static final Scene crowd = Scene.crowd(due);

    public static void main(String[] args) {
        newObject();
        kindsOfTypes();
        lettersOfTypes();
        outersOfTypes();
        fullTypes();
        takenTops();
        takenFromOuterOnes();
        takenMembers();
        numbersOfFields();
        fullFields();
        takenFields();
        valuesOfFields();
        numbersOfLocals();
        fullLocals();
        localsOfOneName();
        valuesOfLocals();
        localsAhead();
        numbersOfAssign();
        assigned();
        methodWas();
        takenMethods();
        numbersOfParents();
        recordsAsParents();
        takenParents();
        ringsOfParents();
        numbersOfNames();
        firstAndLastBytes();
        lettersOfNames();
        numbersInNames();
        numbersOfTheirOwn();
        due.end();
    }

    // ---- promise 1

    private static void newObject() {
        due.promise(1, "No TYPES; NOTHING in PLACES");
        for (int what = 0; what < 4; what++) {
            due.is("count(" + what + ")", empty.fresh().count(what), 0);
        }
        for (int place = 0; place < 8; place++) {
            int here = place;
            empty.refuses("about(" + place + ", 0)", x -> x.about(here, 0), NONE);
            empty.refuses("lambda(" + place + ", 0)", x -> x.lambda(here, 0), NONE);
            empty.refuses("see(" + place + ", 0)", x -> x.see(here, 0), 0, 9);
            due.is("free(" + place + ")", empty.fresh().free(place), 0);
            due.is("same(" + place + ", 7)", empty.fresh().same(place, 7), 1);
            due.is("share(" + place + ", 0)", empty.fresh().share(place, 0), 0);
        }
        empty.refuses("name(0, NONE)", x -> x.name(0, NONE), BAD);
        empty.refuses("field", x -> x.field(0, 0, 1, false), BAD);
        empty.refuses("local", x -> x.local(0, 0, 1), BAD);
        empty.refuses("assign", x -> x.assign(0, 0, 1), BAD);
        empty.refuses("method", x -> x.method(0, true), BAD);
        empty.refuses("parent", x -> x.parent(0, 0), BAD);
        empty.refuses("make", x -> x.make(0, 0, 0), BAD, BAD);
        empty.refuses("that", x -> x.that(0, 0, 1), BAD, BAD);
        empty.refuses("constant", x -> x.constant(0, 0), 0, BAD);
        empty.refuses("seen", x -> x.seen(0, 0), 0, BAD);
        due.is("the first type", empty.fresh().type(TOP, 0, 0), 0);
    }

    // ---- promise 2

    private static void kindsOfTypes() {
        due.promise(2, "BAD: kind; a KIND: 0 TOP .. 5 UNNAMED");
        for (int kind = TOP; kind <= UNNAMED; kind++) {
            due.is("kind " + kind, village.fresh().type(kind, 0, 20), 9);
        }
        for (int kind : Edges.wrong(6)) {
            empty.refuses("kind " + kind, x -> x.type(kind, 0, 0), BAD);
            village.refuses("kind " + kind, x -> x.type(kind, 0, 20), BAD);
            crowd.refuses("BAD kind ahead of FULL, " + kind, x -> x.type(kind, 0, 20), BAD);
        }
    }

    private static void lettersOfTypes() {
        due.promise(2, "BAD: letter (not looked at of UNNAMED ones); a LETTER 0 .. 25");
        for (int kind = TOP; kind <= RECORD; kind++) {
            int here = kind;
            due.is("letter 0 of kind " + kind, village.fresh().type(kind, 6, kind == TOP ? 1 : 0), 9);
            due.is("letter 25 of kind " + kind, village.fresh().type(kind, 6, 25), 9);
            for (int letter : Edges.wrong(26)) {
                village.refuses("letter " + letter + " of kind " + kind, x -> x.type(here, 6, letter), BAD);
            }
            crowd.refuses("BAD letter ahead of FULL", x -> x.type(here, 6, 26), BAD);
            crowd.refuses("BAD letter ahead of FULL", x -> x.type(here, 6, -1), BAD);
        }
        due.is("letter 0 of a top", empty.fresh().type(TOP, 0, 0), 0);
        for (int letter : Edges.wrong(26)) {
            due.is("letter " + letter + " of an unnamed one", village.fresh().type(UNNAMED, 0, letter), 9);
        }
        for (int letter = 0; letter < 26; letter++) {
            due.is("letter " + letter + " of an unnamed one", village.fresh().type(UNNAMED, 0, letter), 9);
        }
    }

    private static void outersOfTypes() {
        due.promise(2, "BAD: outer (not looked at of TOPS); an OUTER TYPE, one of those before");
        for (int kind = STATIC; kind <= UNNAMED; kind++) {
            int here = kind;
            empty.refuses("outer 0 of kind " + kind, x -> x.type(here, 0, 0), BAD);
            due.is("outer 0 of kind " + kind, village.fresh().type(kind, 0, 20), 9);
            due.is("outer 8 of kind " + kind, village.fresh().type(kind, 8, 20), 9);
            for (int outer : Edges.wrong(9)) {
                village.refuses("outer " + outer + " of kind " + kind, x -> x.type(here, outer, 20), BAD);
            }
            crowd.refuses("BAD outer ahead of FULL", x -> x.type(here, 12, 20), BAD);
            crowd.refuses("BAD outer ahead of FULL", x -> x.type(here, -1, 20), BAD);
        }
        for (int outer : Edges.wrong(9)) {
            due.is("outer " + outer + " of a top", village.fresh().type(TOP, outer, 20), 9);
        }
    }

    private static void fullTypes() {
        due.promise(2, "A TYPE: its number; FULL; TYPES 0 .. 11");
        for (int kind = TOP; kind <= UNNAMED; kind++) {
            InnerCaptures x = new InnerCaptures();
            due.is("type 0", x.type(TOP, 0, 0), 0);
            for (int i = 1; i < 12; i++) {
                due.is("type " + i + " of kind " + kind, x.type(kind, 0, i), i);
            }
            due.is("a 13th of kind " + kind, x.type(kind, 0, 20), FULL);
            due.is("a 13th once more", x.type(kind, 11, 20), FULL);
            due.is("count(0)", x.count(0), 12);
            int here = kind;
            crowd.refuses("a 13th of kind " + kind, y -> y.type(here, 0, 20), FULL);
            crowd.refuses("FULL ahead of TAKEN, kind " + kind, y -> y.type(here, 0, 0), FULL);
        }
        InnerCaptures x = new InnerCaptures();
        x.type(TOP, 0, 0);
        due.is("refused", x.type(TOP, 0, 0), TAKEN);
        due.is("refused", x.type(INNER, 1, 1), BAD);
        due.is("a refused one takes no number", x.type(TOP, 0, 1), 1);
    }

    private static void takenTops() {
        due.promise(2, "TAKEN: a TOP's LETTER is that of another TOP");
        for (int letter = 0; letter < 26; letter++) {
            int here = letter;
            InnerCaptures x = new InnerCaptures();
            x.type(TOP, 0, letter);
            due.is("letter " + letter + " twice", x.type(TOP, 0, here), TAKEN);
        }
        village.refuses("the first top's", x -> x.type(TOP, 0, 0), TAKEN);
        village.refuses("the last top's", x -> x.type(TOP, 0, 5), TAKEN);
        for (int letter : new int[] {1, 2, 3, 4, 6, 7}) {
            due.is("letter " + letter + " of one that is no top", village.fresh().type(TOP, 0, letter), 9);
        }
    }

    private static void takenFromOuterOnes() {
        due.promise(2, "TAKEN: another one's that of its OUTER TYPE, that one's and so on");
        for (int kind = STATIC; kind <= RECORD; kind++) {
            int here = kind;
            for (int letter : new int[] {0, 4, 7}) {
                village.refuses("letter " + letter + " in A$E$H of kind " + kind, x -> x.type(here, 8, letter), TAKEN);
            }
            due.is("that of one beside the outer one", village.fresh().type(kind, 8, 1), 9);
            due.is("that of another top", village.fresh().type(kind, 8, 5), 9);
            due.is("that of one within", village.fresh().type(kind, 0, 7), 9);
            InnerCaptures deep = new InnerCaptures();
            deep.type(TOP, 0, 0);
            for (int i = 1; i < 11; i++) {
                deep.type(i % 2 == 0 ? UNNAMED : kind, i - 1, i);
            }
            due.is("ten out, unnamed ones between, kind " + kind, deep.type(kind, 10, 0), TAKEN);
            due.is("nine out", deep.type(kind, 10, 1), TAKEN);
            due.is("an unnamed one has none", deep.type(kind, 10, 10), 11);
        }
    }

    private static void takenMembers() {
        due.promise(2, "TAKEN: of STATIC, INNER ones also that of another such one in the same OUTER TYPE");
        village.refuses("static beside inner", x -> x.type(STATIC, 0, 1), TAKEN);
        village.refuses("inner beside inner", x -> x.type(INNER, 0, 1), TAKEN);
        village.refuses("static beside static", x -> x.type(STATIC, 0, 4), TAKEN);
        village.refuses("inner beside static", x -> x.type(INNER, 0, 4), TAKEN);
        due.is("in another outer type", village.fresh().type(INNER, 6, 1), 9);
        for (int kind = STATIC; kind <= INNER; kind++) {
            due.is("beside a local one", village.fresh().type(kind, 0, 2), 9);
            due.is("beside a record", village.fresh().type(kind, 0, 3), 9);
        }
        for (int kind = LOCAL; kind <= RECORD; kind++) {
            for (int letter = 1; letter <= 4; letter++) {
                due.is("kind " + kind + " beside any", village.fresh().type(kind, 0, letter), 9);
            }
        }
    }

    // ---- promise 3

    private static void numbersOfFields() {
        due.promise(3, "BAD: a number is not as told; NAME 0 .. 7");
        for (int type : Edges.wrong(9)) {
            village.refuses("type " + type, x -> x.field(type, 7, 1, false), BAD);
        }
        for (int name : Edges.wrong(8)) {
            village.refuses("name " + name, x -> x.field(0, name, 1, false), BAD);
            village.refuses("static name " + name, x -> x.field(0, name, 1, true), BAD);
            crowd.refuses("BAD ahead of FULL, name " + name, x -> x.field(0, name, 1, true), BAD);
        }
        crowd.refuses("type 12", x -> x.field(12, 7, 1, false), BAD);
        for (int type = 0; type < 12; type++) {
            due.isTrue("the last name of type " + type, crowd.fresh().field(type, 3, 1, false) > 0 == (type != 0));
        }
        due.is("name 0", village.fresh().field(8, 0, 1, false), 1);
        due.is("name 7", village.fresh().field(8, 7, 1, true), 1);
    }

    private static void fullFields() {
        due.promise(3, "A FIELD more: how many; FULL; FIELDS, 4 at most");
        for (int kind = TOP; kind <= UNNAMED; kind++) {
            InnerCaptures x = village.fresh();
            int type = x.type(kind, 0, 20);
            for (int i = 1; i <= 4; i++) {
                due.is("field " + i + " of kind " + kind, x.field(type, i, i, i % 2 == 0), i);
            }
            due.is("a fifth", x.field(type, 5, 5, false), FULL);
            due.is("a fifth, static", x.field(type, 0, 5, true), FULL);
            due.is("FULL ahead of TAKEN", x.field(type, 1, 5, true), FULL);
        }
        crowd.refuses("a fifth", x -> x.field(0, 2, 1, false), FULL);
        crowd.refuses("a fifth, static", x -> x.field(0, 2, 1, true), FULL);
        crowd.refuses("FULL ahead of TAKEN", x -> x.field(0, 0, 1, true), FULL);
        due.is("another type's", crowd.fresh().field(8, 0, 1, true), 1);
    }

    private static void takenFields() {
        due.promise(3, "TAKEN: the NAME is there; a NAME 0 .. 7 (once)");
        village.refuses("a field's", x -> x.field(0, 0, 1, false), TAKEN);
        village.refuses("a field's, static", x -> x.field(0, 0, 1, true), TAKEN);
        village.refuses("a static field's", x -> x.field(0, 1, 1, false), TAKEN);
        village.refuses("a static field's, static", x -> x.field(0, 1, 1, true), TAKEN);
        due.is("a local's name", village.fresh().field(0, 2, 1, false), 3);
        due.is("the name of a field around", village.fresh().field(1, 0, 1, false), 2);
        due.is("the name of a field above", village.fresh().field(1, 5, 1, false), 2);
        due.is("the name of a field below", village.fresh().field(5, 4, 1, false), 2);
        InnerCaptures x = new InnerCaptures();
        x.type(TOP, 0, 0);
        for (int name = 4; name < 8; name++) {
            x.field(0, name, name, true);
        }
        x.type(TOP, 0, 1);
        for (int i = 0; i < 3; i++) {
            x.field(1, 7 - i, 1, true);
            for (int name = 7 - i; name < 8; name++) {
                due.is("name " + name + " again", x.field(1, name, 2, false), TAKEN);
            }
        }
    }

    private static void valuesOfFields() {
        due.promise(3, "a first value, STATIC or not");
        for (long v : Edges.LONGS) {
            InnerCaptures x = new InnerCaptures();
            x.type(TOP, 0, 0);
            x.field(0, 0, v, true);
            x.field(0, 7, v, false);
            x.make(0, 0, 0);
            due.isFound("constant " + v, x.constant(0, 0), x, v, 0);
            due.isFound("static " + v, x.see(0, 0), x, v, 0);
            due.isFound("not static " + v, x.see(0, 7), x, v, 0);
        }
    }

    // ---- promise 4

    private static void numbersOfLocals() {
        due.promise(4, "BAD: a number is not as told; each with a NAME (0 .. 7)");
        for (int type : Edges.wrong(9)) {
            village.refuses("type " + type, x -> x.local(type, 7, 1), BAD);
        }
        for (int name : Edges.wrong(8)) {
            village.refuses("name " + name, x -> x.local(0, name, 1), BAD);
            crowd.refuses("BAD ahead of FULL, name " + name, x -> x.local(0, name, 1), BAD);
        }
        crowd.refuses("type 12", x -> x.local(12, 0, 1), BAD);
        due.is("name 0 of the last type", crowd.fresh().local(11, 0, 1), 1);
        due.is("name 7 of the last type", crowd.fresh().local(11, 7, 1), 1);
    }

    private static void fullLocals() {
        due.promise(4, "A LOCAL more: how many; FULL; LOCALS, 4 at most");
        for (int kind = TOP; kind <= UNNAMED; kind++) {
            InnerCaptures x = village.fresh();
            int type = x.type(kind, 0, 20);
            for (int i = 1; i <= 4; i++) {
                due.is("local " + i + " of kind " + kind, x.local(type, i, i), i);
            }
            due.is("a fifth", x.local(type, 5, 5), FULL);
            due.is("a fifth of a name that is there", x.local(type, 4, 5), FULL);
        }
        crowd.refuses("a fifth", x -> x.local(0, 7, 1), FULL);
        crowd.refuses("a fifth of a name that is there", x -> x.local(0, 2, 1), FULL);
        due.is("another type's", crowd.fresh().local(8, 0, 1), 1);
    }

    private static void localsOfOneName() {
        due.promise(4, "Several may have one NAME");
        InnerCaptures x = new InnerCaptures();
        x.type(TOP, 0, 0);
        x.field(0, 7, 9, false);
        for (int i = 1; i <= 4; i++) {
            due.is("local " + i + " of a field's name", x.local(0, 7, i), i);
        }
        x.make(0, 0, 0);
        for (int n = 0; n <= 4; n++) {
            x.lambda(0, n);
            due.isFound("behind " + n, x.seen(n, 7), x, n == 0 ? 9 : n, 0);
        }
    }

    private static void valuesOfLocals() {
        due.promise(4, "each with a NAME, a value");
        for (long v : Edges.LONGS) {
            InnerCaptures x = new InnerCaptures();
            x.type(TOP, 0, 0);
            x.local(0, 7, v);
            x.type(LOCAL, 0, 1);
            x.make(0, 0, 0);
            x.make(1, 0, 1);
            x.lambda(0, 1);
            due.isFound("copied to an object: " + v, x.see(1, 7), x, v, 0);
            due.isFound("copied to a lambda: " + v, x.seen(0, 7), x, v, 0);
        }
    }

    private static void localsAhead() {
        due.promise(4, "behind the LOCALS that it had when they came");
        for (int ahead = 0; ahead <= 4; ahead++) {
            for (int kind = LOCAL; kind <= UNNAMED; kind += 2) {
                InnerCaptures x = new InnerCaptures();
                x.type(TOP, 0, 0);
                for (int i = 0; i < 4; i++) {
                    if (i == ahead) {
                        x.type(kind, 0, 1);
                    }
                    x.local(0, i, i + 10);
                }
                if (ahead == 4) {
                    x.type(kind, 0, 1);
                }
                x.make(0, 0, 0);
                x.make(1, 0, 1);
                due.is("copies", x.about(1, 3), ahead);
                for (int i = 0; i < 4; i++) {
                    due.isFound("local " + i + " of " + ahead + " ahead", x.see(1, i), x,
                            i < ahead ? i + 10 : 0, i < ahead ? 0 : 8);
                }
            }
        }
    }

    // ---- promise 5

    private static void numbersOfAssign() {
        due.promise(5, "BAD: a number is not as told, there is no such thing");
        for (int type : Edges.wrong(9)) {
            village.refuses("type " + type, x -> x.assign(type, 0, 1), BAD);
        }
        crowd.refuses("type 12", x -> x.assign(12, 0, 1), BAD);
        village.refuses("the first local of a type without", x -> x.assign(1, 0, 1), BAD);
        for (int local : Edges.wrong(2)) {
            village.refuses("local " + local + " of two", x -> x.assign(0, local, 1), BAD);
        }
        for (int local : Edges.wrong(4)) {
            crowd.refuses("local " + local + " of four", x -> x.assign(0, local, 1), BAD);
        }
        due.is("the last of two", village.fresh().assign(0, 1, 1), 1);
        due.is("the last of four", crowd.fresh().assign(0, 3, 1), 0);
        due.is("the first", crowd.fresh().assign(0, 0, 1), 0);
    }

    private static void assigned() {
        due.promise(5, "A LOCAL is ASSIGNED: it was already (1, 0)");
        for (long v : Edges.LONGS) {
            InnerCaptures x = new InnerCaptures();
            x.type(TOP, 0, 0);
            for (int i = 0; i < 4; i++) {
                x.local(0, i, v);
            }
            x.type(LOCAL, 0, 1);
            x.make(0, 0, 0);
            x.make(1, 0, 1);
            x.lambda(0, 4);
            for (int i = 0; i < 4; i++) {
                due.isFound("local " + i + " ahead of it", x.see(1, i), x, v, 0);
                due.is("it was not", x.assign(0, i, v), 0);
                due.is("it was", x.assign(0, i, v), 1);
                due.is("it was", x.assign(0, i, 5), 1);
                due.isFound("local " + i + " behind it", x.see(1, i), x, 0, 7);
                due.isFound("from the lambda", x.seen(0, i), x, 0, 7);
            }
        }
    }

    // ---- promise 6

    private static void methodWas() {
        due.promise(6, "The METHOD is STATIC from now on, or is not: it was (1, 0). BAD");
        for (int type : Edges.wrong(9)) {
            village.refuses("type " + type, x -> x.method(type, true), BAD);
            village.refuses("type " + type, x -> x.method(type, false), BAD);
        }
        crowd.refuses("type 12", x -> x.method(12, true), BAD);
        for (int kind = TOP; kind <= UNNAMED; kind++) {
            InnerCaptures x = village.fresh();
            int type = x.type(kind, 8, 20);
            due.is("at first, kind " + kind, x.method(type, false), 0);
            due.is("still not", x.method(type, true), 0);
            due.is("now", x.method(type, true), 1);
            due.is("still", x.method(type, false), 1);
            due.is("no longer", x.method(type, false), 0);
        }
        InnerCaptures x = new InnerCaptures();
        for (int i = 0; i < 12; i++) {
            x.type(TOP, 0, i);
        }
        due.is("the last of twelve", x.method(11, true), 0);
        due.is("not the one beside it", x.method(10, true), 0);
    }

    private static void takenMethods() {
        due.promise(6, "TAKEN: a TYPE stands in it; KINDS 3 to 5 stand in the METHOD of their OUTER one");
        village.refuses("to static", x -> x.method(0, true), TAKEN);
        village.refuses("as it is", x -> x.method(0, false), TAKEN);
        village.refuses("of a static one", x -> x.method(6, false), TAKEN);
        village.refuses("of a static one, as it is", x -> x.method(6, true), TAKEN);
        crowd.refuses("of the last type's outer one", x -> x.method(0, true), TAKEN);
        for (int kind = STATIC; kind <= UNNAMED; kind++) {
            InnerCaptures x = new InnerCaptures();
            x.type(TOP, 0, 0);
            x.type(INNER, 0, 1);
            x.type(kind, 1, 2);
            due.is("kind " + kind + " in it", x.method(1, true), kind >= LOCAL ? TAKEN : 0);
            due.is("kind " + kind + " further in", x.method(0, true), 0);
            due.is("kind " + kind + " itself", x.method(2, true), 0);
        }
        InnerCaptures x = new InnerCaptures();
        x.type(TOP, 0, 0);
        x.local(0, 0, 1);
        x.make(0, 0, 0);
        x.lambda(0, 1);
        due.is("locals, objects, lambdas are no types", x.method(0, true), 0);
    }

    // ---- promise 7

    private static void numbersOfParents() {
        due.promise(7, "A TYPE's PARENT. 1. BAD");
        for (int wrong : Edges.wrong(9)) {
            village.refuses("type " + wrong, x -> x.parent(wrong, 0), BAD);
            village.refuses("above " + wrong, x -> x.parent(0, wrong), BAD);
            village.refuses("BAD ahead of TAKEN, above " + wrong, x -> x.parent(1, wrong), BAD);
            village.refuses("both " + wrong, x -> x.parent(wrong, wrong), BAD);
        }
        crowd.refuses("type 12", x -> x.parent(12, 0), BAD);
        crowd.refuses("above 12", x -> x.parent(0, 12), BAD);
        due.is("the first and the last", crowd.fresh().parent(0, 11), 1);
        due.is("the last and the first", crowd.fresh().parent(11, 0), 1);
        for (int kind = TOP; kind <= UNNAMED; kind++) {
            for (int above = TOP; above <= UNNAMED; above++) {
                InnerCaptures x = village.fresh();
                x.type(kind, 0, 20);
                x.type(above, 0, 21);
                boolean isRecord = kind == RECORD || above == RECORD;
                due.is("kind " + kind + " below " + above, x.parent(9, 10), isRecord ? BAD : 1);
            }
        }
    }

    private static void recordsAsParents() {
        due.promise(7, "BAD: also RECORDS, either of both");
        village.refuses("a record's", x -> x.parent(3, 0), BAD);
        village.refuses("a record", x -> x.parent(0, 3), BAD);
        village.refuses("a record below itself", x -> x.parent(3, 3), BAD);
        village.refuses("BAD ahead of TAKEN", x -> x.parent(1, 3), BAD);
        crowd.refuses("two records", x -> x.parent(3, 10), BAD);
    }

    private static void takenParents() {
        due.promise(7, "TAKEN: it has one, the PARENT is it, or one that it is ABOVE of");
        village.refuses("it has one", x -> x.parent(1, 6), TAKEN);
        village.refuses("it has that one", x -> x.parent(1, 5), TAKEN);
        village.refuses("the parent is it", x -> x.parent(0, 0), TAKEN);
        village.refuses("the parent is it, and it has one", x -> x.parent(2, 2), TAKEN);
        village.refuses("one step above", x -> x.parent(5, 1), TAKEN);
        village.refuses("two steps above", x -> x.parent(5, 2), TAKEN);
        due.is("below the topmost", village.fresh().parent(6, 5), 1);
        due.is("above the topmost", village.fresh().parent(5, 6), 1);
        due.is("a second child", village.fresh().parent(6, 1), 1);
    }

    private static void ringsOfParents() {
        due.promise(7, "TYPES ABOVE it are its PARENT, that one's, and so on");
        for (int length = 1; length <= 12; length++) {
            InnerCaptures x = new InnerCaptures();
            for (int i = 0; i < 12; i++) {
                x.type(TOP, 0, i);
            }
            for (int i = 1; i < length; i++) {
                due.is("step " + i, x.parent(i - 1, i), 1);
            }
            due.is("a ring of " + length, x.parent(length - 1, 0), TAKEN);
            x.make(0, 0, 0);
            due.is("levels", x.about(0, 1), length);
        }
    }

    // ---- promise 8

    private static void numbersOfNames() {
        due.promise(8, "BAD: a number is not as told");
        for (int type : Edges.wrong(9)) {
            village.refuses("type " + type, x -> x.name(type, 0), BAD);
            village.refuses("length of type " + type, x -> x.name(type, NONE), BAD);
        }
        crowd.refuses("type 12", x -> x.name(12, NONE), BAD);
        for (int type = 0; type < 9; type++) {
            int here = type;
            int length = village.fresh().name(type, NONE);
            for (int i : new int[] {-1, -2, -4, -5, length, length + 1, 256, -256, Integer.MIN_VALUE, Integer.MAX_VALUE}) {
                village.refuses("byte " + i + " of type " + type, x -> x.name(here, i), BAD);
            }
        }
    }

    private static void isNamed(InnerCaptures x, int type, String text) {
        due.is("how many bytes " + text + " has", x.name(type, NONE), text.length());
        for (int i = 0; i < text.length(); i++) {
            due.is("byte " + i + " of " + text, x.name(type, i), text.charAt(i));
        }
        due.is("behind the last byte of " + text, x.name(type, text.length()), BAD);
        due.is("ahead of the first byte of " + text, x.name(type, -1), BAD);
    }

    private static void firstAndLastBytes() {
        due.promise(8, "Byte i of the CLASS NAME; i = NONE: how many there are");
        String[] texts = {"A", "A$B", "A$1C", "A$1D", "A$1", "A$E", "F", "F$1G", "A$E$H", "A$E$H$1", "F$1I", "A$J"};
        InnerCaptures x = crowd.fresh();
        for (int type = 0; type < texts.length; type++) {
            isNamed(x, type, texts[type]);
        }
        for (int kind = STATIC; kind <= UNNAMED; kind++) {
            InnerCaptures deep = new InnerCaptures();
            deep.type(TOP, 0, 0);
            StringBuilder text = new StringBuilder("A");
            for (int i = 1; i < 12; i++) {
                deep.type(kind, i - 1, i);
                text.append(kind >= LOCAL ? "$1" : "$").append(kind == UNNAMED ? "" : (char) (65 + i));
            }
            isNamed(deep, 11, text.toString());
        }
    }

    private static void lettersOfNames() {
        due.promise(8, "its LETTER (byte 65 and it)");
        for (int letter = 0; letter < 26; letter++) {
            InnerCaptures x = new InnerCaptures();
            x.type(TOP, 0, letter);
            isNamed(x, 0, "" + (char) (65 + letter));
            int other = 25 - letter;
            for (int kind = STATIC; kind <= RECORD; kind++) {
                InnerCaptures y = new InnerCaptures();
                y.type(TOP, 0, letter);
                y.type(kind, 0, other);
                isNamed(y, 1, (char) (65 + letter) + "$" + (kind >= LOCAL ? "1" : "") + (char) (65 + other));
            }
        }
    }

    private static void numbersInNames() {
        due.promise(8, "the number (in digits) is the least from 1 on that no TYPE before it has");
        for (int kind = LOCAL; kind <= UNNAMED; kind++) {
            InnerCaptures x = new InnerCaptures();
            x.type(TOP, 0, 0);
            for (int i = 1; i < 12; i++) {
                x.type(kind, 0, 25);
                isNamed(x, i, "A$" + i + (kind == UNNAMED ? "" : "Z"));
            }
        }
        InnerCaptures x = new InnerCaptures();
        x.type(TOP, 0, 0);
        for (int i = 1; i < 11; i++) {
            x.type(i % 2 == 0 ? LOCAL : RECORD, 0, 25);
            isNamed(x, i, "A$" + i + "Z");
        }
        x.type(INNER, 10, 1);
        isNamed(x, 11, "A$10Z$B");
    }

    private static void numbersOfTheirOwn() {
        due.promise(8, "in that OUTER TYPE, with that LETTER (without one, too)");
        InnerCaptures x = new InnerCaptures();
        x.type(TOP, 0, 0);
        x.type(INNER, 0, 1);
        x.type(LOCAL, 0, 1);
        x.type(LOCAL, 0, 2);
        x.type(UNNAMED, 0, 1);
        x.type(LOCAL, 1, 2);
        x.type(UNNAMED, 1, 2);
        x.type(RECORD, 0, 2);
        x.type(UNNAMED, 0, 2);
        x.type(UNNAMED, 3, 2);
        x.type(RECORD, 0, 3);
        x.type(STATIC, 0, 3);
        String[] texts = {"A", "A$B", "A$1B", "A$1C", "A$1", "A$B$1C", "A$B$1", "A$2C", "A$2", "A$1C$1", "A$1D", "A$D"};
        for (int type = 0; type < texts.length; type++) {
            isNamed(x, type, texts[type]);
        }
    }
}
