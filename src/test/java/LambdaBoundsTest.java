/** The boundary cases that promises 18, 19 and 21 name, a sentence at a time. */
public final class LambdaBoundsTest {
    private static final int BAD = -1, FULL = -2, NONE = -3;
    private static final int CUT = 4, LATE = 5, LOCKED = 6, ASSIGNED = 7, UNKNOWN = 8;
    private static final int TOP = 0, INNER = 2;
    private static final Due due = new Due();
    private static final Scene empty = Scene.empty(due);
    private static final Scene village = Scene.village(due);
    private static final Scene crowd = Scene.crowd(due);

    public static void main(String[] args) {
        placesOfLambdas();
        lambdasOfNothing();
        localsOfLambdas();
        fullLambdas();
        orderOfRefusals();
        numbersOfSeen();
        seenLocals();
        seenValues();
        copiesOfThen();
        seenAssigned();
        seenWithTheObject();
        seenWithout();
        seenRefused();
        numbersOfCount();
        countTypes();
        countObjects();
        countLambdas();
        countPlaces();
        due.end();
    }

    // ---- promise 18

    private static void placesOfLambdas() {
        due.promise(18, "BAD: PLACE");
        for (int place : Edges.wrong(8)) {
            empty.refuses("place " + place, x -> x.lambda(place, 0), BAD);
            village.refuses("place " + place, x -> x.lambda(place, 0), BAD);
            crowd.refuses("BAD place ahead of FULL, " + place, x -> x.lambda(place, 0), BAD);
        }
        for (int place = 0; place < 8; place++) {
            InnerCaptures x = village.fresh();
            x.make(0, 0, 7);
            due.is("place " + place, x.lambda(place, 0), 2);
        }
    }

    private static void lambdasOfNothing() {
        due.promise(18, "NONE: NOTHING");
        for (int n : new int[] {0, 1, 4}) {
            village.refuses("behind " + n, x -> x.lambda(7, n), NONE);
            empty.refuses("behind " + n, x -> x.lambda(0, n), NONE);
        }
        InnerCaptures x = village.fresh();
        x.free(0);
        due.is("what was freed", x.lambda(0, 0), NONE);
        due.is("none came", x.count(2), 2);
    }

    private static void localsOfLambdas() {
        due.promise(18, "BAD: n; behind its first n LOCALS");
        for (int n : Edges.wrong(3)) {
            village.refuses("n " + n + " of two", x -> x.lambda(0, n), BAD);
        }
        for (int n : Edges.wrong(1)) {
            village.refuses("n " + n + " of none", x -> x.lambda(1, n), BAD);
        }
        for (int locals = 0; locals <= 4; locals++) {
            InnerCaptures x = new InnerCaptures();
            x.type(TOP, 0, 0);
            for (int i = 0; i < locals; i++) {
                x.local(0, i, i);
            }
            x.make(0, 0, 0);
            for (int n = 0; n <= locals; n++) {
                due.is("n " + n + " of " + locals, x.lambda(0, n), n);
            }
            for (int n : Edges.wrong(locals + 1)) {
                due.is("n " + n + " of " + locals, x.lambda(0, n), BAD);
            }
            due.is("count(2)", x.count(2), locals + 1);
        }
        InnerCaptures x = village.fresh();
        due.is("those of what is around are not its own", x.lambda(2, 2), BAD);
        x.local(1, 0, 5);
        due.is("those that came behind the object are", x.lambda(1, 1), 2);
        due.is("those above are not", x.lambda(2, 2), BAD);
    }

    private static void fullLambdas() {
        due.promise(18, "its number; FULL; LAMBDAS 0 .. 5, as they are made");
        InnerCaptures x = new InnerCaptures();
        x.type(TOP, 0, 0);
        x.make(0, 0, 0);
        for (int i = 0; i < 6; i++) {
            due.is("refused, which takes no number", x.lambda(0, 1), BAD);
            due.is("lambda " + i, x.lambda(0, 0), i);
        }
        due.is("a seventh", x.lambda(0, 0), FULL);
        x.free(0);
        x.make(0, 0, 0);
        due.is("they never go", x.lambda(0, 0), FULL);
        for (int place = 0; place < 8; place++) {
            int here = place;
            crowd.refuses("a seventh, place " + place, y -> y.lambda(here, 0), FULL);
        }
        crowd.refuses("a seventh, behind four", y -> y.lambda(0, 4), FULL);
    }

    private static void orderOfRefusals() {
        due.promise(18, "BAD: PLACE; NONE: NOTHING; BAD: n; FULL, of several the first here");
        Scene scene = new Scene(due, "full, a place free", x -> {
            Scene.crowdIn(x);
            x.free(7);
        });
        for (int n : Edges.wrong(5)) {
            scene.refuses("BAD place, n " + n, x -> x.lambda(8, n), BAD);
            scene.refuses("NONE ahead of BAD n, " + n, x -> x.lambda(7, n), NONE);
            scene.refuses("BAD n ahead of FULL, " + n, x -> x.lambda(0, n), BAD);
        }
        scene.refuses("NONE ahead of FULL", x -> x.lambda(7, 0), NONE);
    }

    // ---- promise 19

    private static void numbersOfSeen() {
        due.promise(19, "why() BAD");
        empty.refuses("the first of none", x -> x.seen(0, 0), 0, BAD);
        for (int lambda : Edges.wrong(2)) {
            village.refuses("lambda " + lambda + " of two", x -> x.seen(lambda, 0), 0, BAD);
        }
        for (int lambda : Edges.wrong(6)) {
            crowd.refuses("lambda " + lambda + " of six", x -> x.seen(lambda, 0), 0, BAD);
        }
        for (int name : Edges.wrong(8)) {
            village.refuses("name " + name, x -> x.seen(0, name), 0, BAD);
            village.refuses("both " + name, x -> x.seen(name, name), 0, BAD);
            crowd.refuses("name " + name, x -> x.seen(5, name), 0, BAD);
        }
        InnerCaptures x = crowd.fresh();
        due.isFound("the last lambda", x.seen(5, 1), x, 11, 0);
        for (int name = 0; name < 8; name++) {
            InnerCaptures y = new InnerCaptures();
            y.type(TOP, 0, 0);
            y.local(0, name, 5);
            y.make(0, 0, 0);
            y.lambda(0, 1);
            due.isFound("name " + name, y.seen(0, name), y, 5, 0);
        }
    }

    private static void seenLocals() {
        due.promise(19, "the latest of these LOCALS with it: the copy; else from the TYPE with the OBJECT");
        InnerCaptures x = new InnerCaptures();
        x.type(TOP, 0, 0);
        x.field(0, 0, 9, false);
        for (int i = 1; i <= 4; i++) {
            x.local(0, i % 2, i);
        }
        x.make(0, 0, 0);
        long[] even = {9, 9, 2, 2, 4};
        long[] odd = {0, 1, 1, 3, 3};
        for (int n = 0; n <= 4; n++) {
            x.lambda(0, n);
            due.isFound("the even one behind " + n, x.seen(n, 0), x, even[n], 0);
            due.isFound("the odd one behind " + n, x.seen(n, 1), x, odd[n], n == 0 ? UNKNOWN : 0);
        }
    }

    private static void seenValues() {
        due.promise(19, "A NAME is FOUND from a LAMBDA: a number is told");
        for (long v : Edges.LONGS) {
            InnerCaptures x = new InnerCaptures();
            x.type(TOP, 0, 0);
            x.field(0, 0, v, false);
            x.field(0, 1, v, true);
            x.local(0, 2, v);
            x.make(0, 0, 0);
            x.lambda(0, 1);
            for (int name = 0; name < 3; name++) {
                due.isFound("name " + name + " is " + v, x.seen(0, name), x, v, 0);
            }
            x.put(0, 0, ~v);
            due.isFound("the field is no copy", x.seen(0, 0), x, ~v, 0);
        }
    }

    private static void copiesOfThen() {
        due.promise(19, "behind its first n LOCALS: a copy of these");
        InnerCaptures x = new InnerCaptures();
        x.type(TOP, 0, 0);
        x.local(0, 0, 1);
        x.make(0, 0, 0);
        x.lambda(0, 1);
        x.local(0, 1, 2);
        x.local(0, 0, 3);
        due.isFound("a later one of the name is not of these", x.seen(0, 0), x, 1, 0);
        due.isFound("nor is another", x.seen(0, 1), x, 0, UNKNOWN);
        x.assign(0, 2, 4);
        due.isFound("a later one that is ASSIGNED", x.seen(0, 0), x, 1, 0);
    }

    private static void seenAssigned() {
        due.promise(19, "the latest of these LOCALS with it: 7");
        village.refuses("ASSIGNED ahead of the lambda", x -> x.seen(0, 3), 0, ASSIGNED);
        Scene scene = new Scene(due, "ASSIGNED behind the lambda", x -> {
            Scene.villageIn(x);
            x.field(0, 2, 50, true);
            x.assign(0, 0, 5);
            x.assign(2, 0, 6);
        });
        scene.refuses("also if a field has the name", x -> x.seen(0, 2), 0, ASSIGNED);
        scene.refuses("the last of one", x -> x.seen(1, 1), 0, ASSIGNED);
        InnerCaptures y = new InnerCaptures();
        y.type(TOP, 0, 0);
        y.local(0, 0, 1);
        y.local(0, 0, 2);
        y.make(0, 0, 0);
        y.lambda(0, 1);
        y.lambda(0, 2);
        y.assign(0, 0, 3);
        due.isFound("the latest is not", y.seen(1, 0), y, 2, 0);
        due.isFound("the latest is", y.seen(0, 0), y, 0, ASSIGNED);
    }

    private static void seenWithTheObject() {
        due.promise(19, "and the OBJECT, if the METHOD is not STATIC");
        InnerCaptures x = village.fresh();
        due.isFound("a field above", x.seen(1, 5), x, 13, 0);
        due.isFound("a copy of the object's", x.seen(1, 2), x, 20, 0);
        due.isFound("a field around", x.seen(1, 0), x, 10, 0);
        x.free(2);
        x.free(0);
        due.isFound("it holds the object", x.seen(1, 5), x, 13, 0);
        due.isFound("and what is around it", x.seen(1, 0), x, 10, 0);
        InnerCaptures y = new InnerCaptures();
        y.type(TOP, 0, 0);
        y.field(0, 0, 1, false);
        y.make(0, 0, 0);
        y.lambda(0, 0);
        y.method(0, true);
        y.lambda(0, 0);
        due.isFound("not STATIC when it was made", y.seen(0, 0), y, 1, 0);
        due.isFound("STATIC when it was made", y.seen(1, 0), y, 0, CUT);
        y.method(0, false);
        due.isFound("and still without one", y.seen(1, 0), y, 0, CUT);
    }

    private static void seenWithout() {
        due.promise(19, "else from the TYPE with the OBJECT (or none)");
        Scene scene = new Scene(due, "in a STATIC METHOD", x -> {
            Scene.villageIn(x);
            x.method(2, true);
            x.method(1, true);
            x.lambda(2, 1);
            x.lambda(1, 0);
        });
        scene.refuses("a field of its own type", x -> x.seen(3, 4), 0, CUT);
        scene.refuses("a field above", x -> x.seen(2, 5), 0, CUT);
        scene.refuses("a field around", x -> x.seen(3, 0), 0, CUT);
        scene.refuses("a copy of the object's", x -> x.seen(2, 2), 0, CUT);
        scene.refuses("7 ahead of 4", x -> x.seen(2, 3), 0, ASSIGNED);
        scene.refuses("nowhere", x -> x.seen(2, 7), 0, UNKNOWN);
        InnerCaptures x = scene.fresh();
        due.isFound("its own copy", x.seen(2, 1), x, 22, 0);
        due.isFound("a static field", x.seen(2, 6), x, 14, 0);
        due.isFound("a static field around", x.seen(3, 1), x, 11, 0);
    }

    private static void seenRefused() {
        due.promise(19, "A NAME is FOUND as from a TYPE: 4, 5, 6, 8");
        Scene scene = new Scene(due, "lambdas in others", x -> {
            Scene.villageIn(x);
            x.lambda(3, 0);
            x.lambda(5, 0);
            x.lambda(0, 0);
            x.field(0, 7, 1, false);
        });
        scene.refuses("4 in a record", x -> x.seen(2, 0), 0, CUT);
        scene.refuses("4 in a static one", x -> x.seen(3, 0), 0, CUT);
        scene.refuses("5", x -> x.seen(4, 7), 0, LATE);
        scene.refuses("5 of what is around", x -> x.seen(1, 7), 0, LATE);
        scene.refuses("6", x -> x.seen(2, 2), 0, LOCKED);
        scene.refuses("6 ahead of 7", x -> x.seen(2, 3), 0, LOCKED);
        scene.refuses("8, behind none of the locals", x -> x.seen(4, 2), 0, UNKNOWN);
        scene.refuses("8", x -> x.seen(3, 6), 0, UNKNOWN);
    }

    // ---- promise 21

    private static void numbersOfCount() {
        due.promise(21, "BAD");
        for (int what : Edges.wrong(4)) {
            empty.refuses("what " + what, x -> x.count(what), BAD);
            village.refuses("what " + what, x -> x.count(what), BAD);
            crowd.refuses("what " + what, x -> x.count(what), BAD);
        }
        int[] counts = {12, 8, 6, 8};
        for (int what = 0; what < 4; what++) {
            due.is("nothing yet, " + what, empty.fresh().count(what), 0);
            due.is("all full, " + what, crowd.fresh().count(what), counts[what]);
        }
    }

    private static void countTypes() {
        due.promise(21, "0 TYPES");
        InnerCaptures x = new InnerCaptures();
        for (int i = 0; i < 12; i++) {
            due.is("types", x.count(0), i);
            x.type(TOP, 0, 26);
            x.type(i % 5, i - 1, i);
        }
        due.is("twelve", x.count(0), 12);
        x.type(TOP, 0, 25);
        due.is("no 13th", x.count(0), 12);
    }

    private static void countObjects() {
        due.promise(21, "1 OBJECTS that were made");
        InnerCaptures x = village.fresh();
        x.type(TOP, 0, 9);
        x.parent(9, 1);
        due.is("of the village", x.count(1), 6);
        x.make(1, 7, 7);
        x.make(1, 1, 7);
        x.make(9, 0, 7);
        x.make(0, 0, 8);
        due.is("refused ones are not", x.count(1), 6);
        x.share(0, 7);
        x.that(2, 0, 7);
        x.lambda(0, 0);
        due.is("shared ones are not", x.count(1), 6);
        x.make(0, 0, 0);
        due.is("one more over another", x.count(1), 7);
        for (int place = 0; place < 8; place++) {
            x.free(place);
        }
        due.is("those that are held no longer are", x.count(1), 7);
    }

    private static void countLambdas() {
        due.promise(21, "2 LAMBDAS");
        InnerCaptures x = new InnerCaptures();
        x.type(TOP, 0, 0);
        x.make(0, 0, 0);
        for (int i = 0; i < 6; i++) {
            due.is("lambdas", x.count(2), i);
            x.lambda(1, 0);
            x.lambda(0, 1);
            x.lambda(0, 0);
        }
        due.is("six", x.count(2), 6);
        x.lambda(0, 0);
        due.is("no seventh", x.count(2), 6);
        x.free(0);
        due.is("they never go", x.count(2), 6);
    }

    private static void countPlaces() {
        due.promise(21, "3 PLACES that hold one");
        InnerCaptures x = new InnerCaptures();
        x.type(TOP, 0, 0);
        for (int place = 0; place < 8; place++) {
            due.is("places", x.count(3), place);
            if (place % 2 == 0) {
                x.make(0, 0, place);
            } else {
                x.share(0, place);
            }
            due.is("one more", x.count(3), place + 1);
        }
        x.make(0, 0, 7);
        due.is("over another", x.count(3), 8);
        for (int place = 7; place >= 0; place--) {
            x.free(place);
            x.free(place);
            due.is("one less", x.count(3), place);
        }
        x.type(INNER, 0, 1);
        x.make(1, 0, 0);
        due.is("refused", x.count(3), 0);
    }
}
