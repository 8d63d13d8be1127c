/** Promises 9 to 13 and 16: making objects, places, what is told of objects, that. */
public final class ObjectsTest {
    private static final int BAD = -1, NONE = -3;
    private static final int TOP = 0, STATIC = 1, INNER = 2, LOCAL = 3, RECORD = 4, UNNAMED = 5;
    private static final Due due = new Due();

    public static void main(String[] args) {
        makeUnbound();
        makeBound();
        makeOfParents();
        aroundOfAParentIsTheNearest();
        aroundGoesByTheText();
        whatIsRefusedIsKept();
        levelsAreAsOfThen();
        share();
        free();
        about();
        same();
        that();
        due.end();
    }

    private static InnerCaptures nest() {
        InnerCaptures x = new InnerCaptures();
        x.type(TOP, 0, 0);
        x.type(INNER, 0, 1);
        x.type(INNER, 1, 2);
        x.type(STATIC, 0, 3);
        return x;
    }

    private static void makeUnbound() {
        InnerCaptures x = nest();
        due.isFound("make a top", x.make(0, 0, 0), x, 0, 0);
        due.isFound("around is not looked at", x.make(0, -1, 7), x, 0, 0);
        due.isFound("of a static one neither", x.make(3, 8, 1), x, 0, 0);
        due.isFound("type -1", x.make(-1, 0, 0), x, BAD, BAD);
        due.isFound("type 4", x.make(4, 0, 0), x, BAD, BAD);
        due.isFound("place -1", x.make(0, 0, -1), x, BAD, BAD);
        due.isFound("place 8", x.make(0, 0, 8), x, BAD, BAD);
        due.is("count(1)", x.count(1), 3);
        due.is("record", x.type(RECORD, 0, 5), 4);
        due.isFound("a record is not bound", x.make(4, 99, 2), x, 0, 0);
        due.is("nothing around it", x.about(2, 2), NONE);
        x.type(TOP, 0, 9);
        x.method(5, true);
        x.type(LOCAL, 5, 6);
        x.type(UNNAMED, 5, 6);
        x.type(INNER, 5, 7);
        due.isFound("a local in a static method", x.make(6, -9, 2), x, 0, 0);
        due.isFound("an unnamed one there", x.make(7, -9, 2), x, 0, 0);
        due.isFound("an inner one is bound", x.make(8, -9, 2), x, BAD, BAD);
        due.isFound("an inner one is bound", x.make(8, 3, 2), x, 1, 1);
    }

    private static void makeBound() {
        InnerCaptures x = nest();
        x.type(LOCAL, 0, 4);
        x.type(UNNAMED, 0, 0);
        x.make(0, 0, 0);
        x.make(3, 0, 6);
        for (int type : new int[] {1, 4, 5}) {
            due.isFound("around -1", x.make(type, -1, 1), x, BAD, BAD);
            due.isFound("around 8", x.make(type, 8, 1), x, BAD, BAD);
            due.isFound("BAD ahead of 1", x.make(type, 7, 8), x, BAD, BAD);
            due.isFound("NULL", x.make(type, 7, 1), x, 1, 1);
            due.isFound("CAST", x.make(type, 6, 1), x, 2, 2);
            due.isFound("around a top", x.make(type, 0, 1), x, 0, 0);
            due.is("around it is a 0", x.about(1, 2), 0);
        }
        x.make(1, 0, 1);
        due.isFound("CAST: a 0 is no 1", x.make(2, 0, 2), x, 2, 2);
        due.isFound("around an inner one", x.make(2, 1, 2), x, 0, 0);
        due.is("count(1)", x.count(1), 7);
        due.isFound("around and place may be one", x.make(2, 1, 1), x, 0, 0);
        due.is("it is there", x.about(1, 0), 2);
        due.is("with what was there around it", x.about(1, 2), 1);
    }

    private static void makeOfParents() {
        InnerCaptures x = nest();
        x.type(TOP, 0, 9);
        x.parent(4, 0);
        x.make(4, 0, 0);
        due.isFound("a child IS of its parent", x.make(1, 0, 1), x, 0, 0);
        due.is("its own type is told", x.about(1, 2), 4);
        x.type(TOP, 0, 10);
        x.parent(5, 1);
        due.isFound("ALONE: not bound itself", x.make(5, 0, 2), x, 3, 3);
        x.type(INNER, 5, 11);
        x.type(TOP, 0, 12);
        x.type(INNER, 7, 13);
        x.parent(8, 1);
        x.make(7, 0, 2);
        due.isFound("ALONE: none of the outer type", x.make(8, 2, 3), x, 3, 3);
        due.isFound("NULL ahead of ALONE", x.make(8, 7, 3), x, 1, 1);
        due.isFound("CAST ahead of ALONE", x.make(8, 0, 3), x, 2, 2);
        due.is("nothing was held", x.about(3, 0), NONE);
        x.type(TOP, 0, 14);
        x.parent(9, 3);
        due.isFound("a static parent needs none", x.make(9, 0, 3), x, 0, 0);
        due.is("two levels", x.about(3, 1), 2);
    }

    /** B in A, C in B, and C's parent D in A: what is around D's level is found from B outwards. */
    private static void aroundOfAParentIsTheNearest() {
        InnerCaptures x = nest();
        x.type(INNER, 0, 4);
        x.field(0, 0, 5, false);
        x.field(4, 1, 6, false);
        x.parent(2, 4);
        x.make(0, 0, 0);
        x.make(1, 0, 1);
        due.isFound("made", x.make(2, 1, 2), x, 0, 0);
        due.isFound("D's field", x.see(2, 1), x, 6, 0);
        x.parent(1, 0);
        x.make(1, 0, 3);
        due.isFound("B is now an A itself", x.make(2, 3, 4), x, 0, 0);
        due.isFound("a field put at the near A", x.put(4, 0, 77), x, 0, 0);
        due.is("it is B's own", x.see(3, 0), 77);
        due.is("not that of the A around B", x.see(0, 0), 5);
    }

    /** At each step outwards it is the level of the type in the text that counts, not the first. */
    private static void aroundGoesByTheText() {
        InnerCaptures x = new InnerCaptures();
        x.type(TOP, 0, 0);
        x.type(TOP, 0, 1);
        x.type(INNER, 0, 2);
        x.type(INNER, 1, 3);
        x.type(INNER, 2, 4);
        x.type(INNER, 0, 5);
        x.parent(4, 5);
        x.parent(3, 2);
        x.parent(1, 0);
        x.field(0, 7, 1, false);
        x.make(0, 0, 0);
        x.make(1, 0, 1);
        x.put(1, 7, 2);
        due.isFound("D in the text of B, parent C of A", x.make(3, 1, 2), x, 0, 0);
        due.isFound("E around that D, which IS a C", x.make(4, 2, 3), x, 0, 0);
        due.is("that A from E", x.that(3, 0, 4), 0);
        due.is("is the B, as it was nearest for level C", x.same(4, 1), 1);
        due.isFound("A's field from E", x.see(3, 7), x, 2, 0);
        x.type(TOP, 0, 9);
        x.type(INNER, 6, 10);
        x.parent(7, 2);
        x.make(6, 0, 5);
        due.isFound("ALONE: no A around", x.make(7, 5, 6), x, 3, 3);
    }

    private static void whatIsRefusedIsKept() {
        InnerCaptures x = nest();
        x.make(0, 0, 0);
        x.make(3, 0, 1);
        x.share(1, 2);
        due.is("NULL", x.make(1, 7, 1), 1);
        due.is("CAST", x.make(1, 2, 1), 2);
        x.type(TOP, 0, 8);
        x.parent(4, 1);
        due.is("ALONE", x.make(4, 0, 1), 3);
        due.is("BAD", x.make(99, 0, 1), BAD);
        due.is("the place holds what it held", x.same(1, 2), 1);
        due.is("count(1)", x.count(1), 2);
    }

    private static void levelsAreAsOfThen() {
        InnerCaptures x = nest();
        x.type(TOP, 0, 9);
        x.make(0, 0, 0);
        x.parent(0, 4);
        due.is("one level still", x.about(0, 1), 1);
        x.make(0, 0, 1);
        due.is("two levels now", x.about(1, 1), 2);
        x.type(INNER, 4, 10);
        due.is("the old one IS no 4", x.make(5, 0, 2), 2);
        due.is("the new one is", x.make(5, 1, 2), 0);
    }

    private static void share() {
        InnerCaptures x = nest();
        x.make(0, 0, 0);
        due.is("from -1", x.share(-1, 0), BAD);
        due.is("from 8", x.share(8, 0), BAD);
        due.is("to -1", x.share(0, -1), BAD);
        due.is("to 8", x.share(0, 8), BAD);
        due.is("an object", x.share(0, 7), 1);
        due.is("the same", x.same(0, 7), 1);
        due.is("two places hold", x.count(3), 2);
        due.is("one was made", x.count(1), 1);
        due.is("nothing", x.share(1, 7), 0);
        due.is("one place holds", x.count(3), 1);
        due.is("with itself", x.share(0, 0), 1);
        due.is("nothing with itself", x.share(7, 7), 0);
        due.is("held still", x.about(0, 0), 0);
    }

    private static void free() {
        InnerCaptures x = nest();
        x.make(0, 0, 0);
        x.make(1, 0, 1);
        due.is("place -1", x.free(-1), BAD);
        due.is("place 8", x.free(8), BAD);
        due.is("held", x.free(0), 1);
        due.is("held no longer", x.free(0), 0);
        due.is("nothing", x.about(0, 0), NONE);
        due.is("still around the other one", x.that(1, 0, 3), 0);
        due.is("its type", x.about(3, 0), 0);
        due.is("count(1) stays", x.count(1), 2);
        due.is("count(3)", x.count(3), 2);
    }

    private static void about() {
        InnerCaptures x = nest();
        x.local(1, 0, 1);
        x.type(LOCAL, 1, 4);
        x.local(1, 0, 1);
        x.local(1, 3, 1);
        x.type(UNNAMED, 1, 4);
        x.type(RECORD, 1, 5);
        x.type(LOCAL, 1, 7);
        x.make(0, 0, 0);
        x.make(1, 0, 1);
        x.make(4, 1, 2);
        x.make(5, 1, 3);
        x.make(6, 1, 4);
        due.is("place -1", x.about(-1, 0), BAD);
        due.is("place 8", x.about(8, 0), BAD);
        due.is("what -1", x.about(0, -1), BAD);
        due.is("what 4", x.about(0, 4), BAD);
        due.is("BAD ahead of NONE", x.about(7, 4), BAD);
        due.is("NOTHING", x.about(7, 3), NONE);
        int[][] rows = {{0, 1, NONE, 0}, {1, 1, 0, 0}, {4, 1, 1, 1}, {5, 1, 1, 3}, {6, 1, NONE, 0}};
        for (int place = 0; place < rows.length; place++) {
            for (int what = 0; what < 4; what++) {
                due.is("about(" + place + ", " + what + ")", x.about(place, what), rows[place][what]);
            }
        }
        x.parent(7, 5);
        x.make(7, 1, 5);
        due.is("levels", x.about(5, 1), 2);
        due.is("copies at the first level alone", x.about(5, 3), 3);
        x.parent(5, 4);
        x.make(5, 1, 6);
        due.is("copies at the first level alone", x.about(6, 3), 3);
    }

    private static void same() {
        InnerCaptures x = nest();
        due.is("a -1", x.same(-1, 0), BAD);
        due.is("a 8", x.same(8, 0), BAD);
        due.is("b -1", x.same(0, -1), BAD);
        due.is("b 8", x.same(0, 8), BAD);
        due.is("nothing both", x.same(0, 7), 1);
        x.make(0, 0, 0);
        due.is("one holds", x.same(0, 7), 0);
        due.is("the other holds", x.same(7, 0), 0);
        x.make(0, 0, 7);
        due.is("two of a kind", x.same(0, 7), 0);
        due.is("with itself", x.same(0, 0), 1);
        x.share(0, 7);
        due.is("shared", x.same(0, 7), 1);
    }

    private static void that() {
        InnerCaptures x = nest();
        x.type(INNER, 3, 5);
        x.type(TOP, 0, 6);
        x.make(0, 0, 0);
        x.make(1, 0, 1);
        x.make(2, 1, 2);
        x.make(3, 0, 3);
        x.make(4, 3, 4);
        due.isFound("place -1", x.that(-1, 0, 7), x, BAD, BAD);
        due.isFound("place 8", x.that(8, 0, 7), x, BAD, BAD);
        due.isFound("type -1", x.that(0, -1, 7), x, BAD, BAD);
        due.isFound("type 6", x.that(0, 6, 7), x, BAD, BAD);
        due.isFound("to -1", x.that(0, 0, -1), x, BAD, BAD);
        due.isFound("to 8", x.that(0, 0, 8), x, BAD, BAD);
        due.isFound("BAD ahead of 9", x.that(7, 6, 5), x, BAD, BAD);
        due.isFound("NOTHING", x.that(7, 0, 5), x, 9, 9);
        due.isFound("itself", x.that(2, 2, 5), x, 0, 0);
        due.is("itself", x.same(2, 5), 1);
        due.isFound("one out", x.that(2, 1, 5), x, 0, 0);
        due.is("one out", x.same(1, 5), 1);
        due.isFound("two out", x.that(2, 0, 5), x, 0, 0);
        due.is("two out", x.same(0, 5), 1);
        due.isFound("to the static one", x.that(4, 3, 5), x, 0, 0);
        due.is("to the static one", x.same(3, 5), 1);
        due.isFound("cut off by the static one", x.that(4, 0, 5), x, 4, 4);
        due.isFound("not around", x.that(4, 1, 5), x, 8, 8);
        due.isFound("inwards", x.that(0, 1, 5), x, 8, 8);
        due.is("refused ones held nothing", x.same(3, 5), 1);
        x.parent(1, 5);
        x.make(1, 0, 6);
        due.isFound("above is not around", x.that(6, 5, 5), x, 8, 8);
        due.isFound("to its own place", x.that(2, 0, 2), x, 0, 0);
        due.is("to its own place", x.same(2, 0), 1);
        due.is("nothing was made", x.count(1), 6);
    }
}
