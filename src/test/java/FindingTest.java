/** Promises 14, 15, 17 and 20: see, put, constant, and what why() tells of them. */
public final class FindingTest {
    private static final int BAD = -1;
    private static final int TOP = 0, STATIC = 1, INNER = 2, LOCAL = 3, RECORD = 4, UNNAMED = 5;
    private static final Due due = new Due();

    public static void main(String[] args) {
        wrongNumbers();
        ownFieldsFirst();
        eachObjectItsOwnFields();
        fieldsAboveAheadOfFieldsAround();
        cut();
        late();
        lateAlsoWhereAnOuterOneWouldDo();
        copies();
        copiesAreAsOfThen();
        copiesAtLevelsAround();
        locked();
        assigned();
        cutCopies();
        unknown();
        putFields();
        putRefused();
        twelveDeep();
        twelveHigh();
        constant();
        why();
        due.end();
    }

    private static void wrongNumbers() {
        InnerCaptures x = new InnerCaptures();
        x.type(TOP, 0, 0);
        x.field(0, 0, 5, false);
        x.make(0, 0, 0);
        due.isFound("see place -1", x.see(-1, 0), x, 0, BAD);
        due.isFound("see place 8", x.see(8, 0), x, 0, BAD);
        due.isFound("see name -1", x.see(0, -1), x, 0, BAD);
        due.isFound("see name 8", x.see(0, 8), x, 0, BAD);
        due.isFound("see nothing", x.see(1, 0), x, 0, 9);
        due.isFound("BAD ahead of 9", x.see(1, 8), x, 0, BAD);
        due.isFound("put place -1", x.put(-1, 0, 1), x, BAD, BAD);
        due.isFound("put place 8", x.put(8, 0, 1), x, BAD, BAD);
        due.isFound("put name -1", x.put(0, -1, 1), x, BAD, BAD);
        due.isFound("put name 8", x.put(0, 8, 1), x, BAD, BAD);
        due.isFound("put nothing", x.put(1, 0, 1), x, 9, 9);
        due.isFound("put BAD ahead of 9", x.put(1, 8, 1), x, BAD, BAD);
        due.isFound("see", x.see(0, 0), x, 5, 0);
    }

    private static void ownFieldsFirst() {
        InnerCaptures x = new InnerCaptures();
        x.type(TOP, 0, 0);
        x.local(0, 1, 300);
        x.type(TOP, 0, 1);
        x.type(LOCAL, 0, 2);
        x.field(0, 1, 200, false);
        x.make(0, 0, 0);
        x.make(2, 0, 1);
        due.is("the local ahead of the field around", x.see(1, 1), 300);
        x.field(1, 1, 100, false);
        x.parent(2, 1);
        x.make(2, 0, 1);
        due.is("the field above ahead of the local", x.see(1, 1), 100);
        x.field(2, 1, Long.MAX_VALUE, false);
        x.make(2, 0, 1);
        due.is("the own field ahead of that above", x.see(1, 1), Long.MAX_VALUE);
    }

    private static void eachObjectItsOwnFields() {
        InnerCaptures x = new InnerCaptures();
        x.type(TOP, 0, 0);
        x.field(0, 7, 1, false);
        x.field(0, 6, 1, true);
        x.make(0, 0, 0);
        x.make(0, 0, 1);
        due.is("put", x.put(0, 7, 2), 0);
        due.is("its own", x.see(0, 7), 2);
        due.is("not the other's", x.see(1, 7), 1);
        x.make(0, 0, 2);
        due.is("first values stay", x.see(2, 7), 1);
        due.is("put a static one", x.put(0, 6, 3), 0);
        due.is("all see it", x.see(1, 6), 3);
        x.make(0, 0, 2);
        due.is("new ones too", x.see(2, 6), 3);
        x.share(0, 3);
        x.put(3, 7, 9);
        due.is("shared ones are one", x.see(0, 7), 9);
    }

    private static void fieldsAboveAheadOfFieldsAround() {
        InnerCaptures x = new InnerCaptures();
        x.type(TOP, 0, 0);
        x.type(INNER, 0, 1);
        x.type(TOP, 0, 2);
        x.type(TOP, 0, 3);
        x.parent(1, 2);
        x.parent(2, 3);
        x.field(0, 0, 10, false);
        x.field(3, 0, 30, false);
        x.field(3, 1, 31, true);
        x.field(2, 2, 22, false);
        x.field(3, 2, 32, false);
        x.make(0, 0, 0);
        x.make(1, 0, 1);
        due.is("far above ahead of around", x.see(1, 0), 30);
        due.is("a static one above", x.see(1, 1), 31);
        due.is("the nearest above", x.see(1, 2), 22);
        due.is("put above", x.put(1, 2, 23), 0);
        due.is("seen above", x.see(1, 2), 23);
        x.make(2, 0, 2);
        due.is("of that object alone", x.see(2, 2), 22);
    }

    private static void cut() {
        InnerCaptures x = new InnerCaptures();
        x.type(TOP, 0, 0);
        x.field(0, 0, 1, false);
        x.field(0, 1, 2, true);
        x.type(STATIC, 0, 1);
        x.type(INNER, 1, 2);
        x.type(RECORD, 0, 3);
        x.make(0, 0, 0);
        x.make(1, 0, 1);
        x.make(2, 1, 2);
        x.make(3, 0, 3);
        for (int place = 1; place <= 3; place++) {
            due.isFound("cut off", x.see(place, 0), x, 0, 4);
            due.isFound("a static one is not", x.see(place, 1), x, 2, 0);
            due.isFound("put: cut off", x.put(place, 0, 9), x, 4, 4);
        }
        due.isFound("put a static one", x.put(3, 1, 8), x, 0, 0);
        due.isFound("it is one", x.see(2, 1), x, 8, 0);
    }

    private static void late() {
        InnerCaptures x = new InnerCaptures();
        x.type(TOP, 0, 0);
        x.type(TOP, 0, 1);
        x.field(0, 0, 1, true);
        x.make(0, 0, 0);
        x.field(0, 1, 1, false);
        due.isFound("the field came later", x.see(0, 1), x, 0, 5);
        due.isFound("put: the field came later", x.put(0, 1, 4), x, 5, 5);
        x.field(0, 2, 7, true);
        due.isFound("a static one may come later", x.see(0, 2), x, 7, 0);
        x.field(1, 3, 1, false);
        x.field(1, 4, 8, true);
        x.parent(0, 1);
        due.isFound("the level came later", x.see(0, 3), x, 0, 5);
        due.isFound("static at a level that is not there", x.see(0, 4), x, 8, 0);
        x.make(0, 0, 0);
        due.isFound("a new one has the field", x.see(0, 1), x, 1, 0);
        due.isFound("a new one has the level", x.see(0, 3), x, 1, 0);
    }

    private static void lateAlsoWhereAnOuterOneWouldDo() {
        InnerCaptures x = new InnerCaptures();
        x.type(TOP, 0, 0);
        x.field(0, 0, 1, false);
        x.type(INNER, 0, 1);
        x.make(0, 0, 0);
        x.make(1, 0, 1);
        due.isFound("around", x.see(1, 0), x, 1, 0);
        x.field(1, 0, 2, false);
        due.isFound("late hides what is around", x.see(1, 0), x, 0, 5);
        x.field(0, 3, 1, false);
        due.isFound("late around", x.see(1, 3), x, 0, 5);
    }

    private static void copies() {
        InnerCaptures x = new InnerCaptures();
        x.type(TOP, 0, 0);
        x.local(0, 0, 10);
        x.local(0, 0, 11);
        x.local(0, 1, 12);
        x.type(LOCAL, 0, 1);
        x.local(0, 0, 13);
        x.type(UNNAMED, 0, 1);
        x.type(INNER, 0, 2);
        x.type(LOCAL, 3, 3);
        x.make(0, 0, 0);
        x.make(1, 0, 1);
        x.make(2, 0, 2);
        x.make(3, 0, 3);
        due.isFound("the latest ahead of it", x.see(1, 0), x, 11, 0);
        due.isFound("another", x.see(1, 1), x, 12, 0);
        due.isFound("the latest ahead of the second", x.see(2, 0), x, 13, 0);
        due.isFound("a member sees no locals", x.see(3, 0), x, 0, 8);
        due.isFound("nor does the type itself", x.see(0, 0), x, 0, 8);
    }

    private static void copiesAreAsOfThen() {
        InnerCaptures x = new InnerCaptures();
        x.type(TOP, 0, 0);
        x.method(0, true);
        x.local(0, 0, 10);
        x.type(LOCAL, 0, 1);
        x.local(0, 1, 20);
        x.make(1, 0, 0);
        due.isFound("in a static method too", x.see(0, 0), x, 10, 0);
        due.isFound("what stands behind it is not seen", x.see(0, 1), x, 0, 8);
        due.isFound("put", x.put(0, 0, 5), x, 7, 7);
        due.isFound("copies are not changed", x.see(0, 0), x, 10, 0);
    }

    private static void copiesAtLevelsAround() {
        InnerCaptures x = new InnerCaptures();
        x.type(TOP, 0, 0);
        x.local(0, 0, 10);
        x.type(LOCAL, 0, 1);
        x.type(INNER, 1, 2);
        x.local(2, 1, 20);
        x.type(UNNAMED, 2, 0);
        x.make(0, 0, 0);
        x.make(1, 0, 1);
        x.make(2, 1, 2);
        x.make(3, 2, 3);
        due.isFound("from the inner one", x.see(2, 0), x, 10, 0);
        due.isFound("from the unnamed one", x.see(3, 0), x, 10, 0);
        due.isFound("its own copy", x.see(3, 1), x, 20, 0);
        x.type(TOP, 0, 9);
        x.parent(1, 4);
        x.field(4, 0, 40, false);
        x.make(1, 0, 1);
        x.make(2, 1, 2);
        due.isFound("a field above the one around", x.see(2, 0), x, 40, 0);
    }

    private static void locked() {
        InnerCaptures x = new InnerCaptures();
        x.type(TOP, 0, 0);
        x.local(0, 0, 10);
        x.type(RECORD, 0, 1);
        x.local(0, 1, 10);
        x.field(0, 1, 5, true);
        x.field(0, 0, 6, true);
        x.type(INNER, 1, 2);
        x.make(1, 0, 0);
        x.make(2, 0, 1);
        due.isFound("locked", x.see(0, 0), x, 0, 6);
        due.isFound("put: locked", x.put(0, 0, 1), x, 6, 6);
        due.isFound("from within too", x.see(1, 0), x, 0, 6);
        x.assign(0, 0, 3);
        due.isFound("6 ahead of 7", x.see(0, 0), x, 0, 6);
        due.isFound("a local behind it is not there", x.see(0, 1), x, 5, 0);
        x.field(1, 0, 9, false);
        x.make(1, 0, 0);
        due.isFound("the own field ahead of it", x.see(0, 0), x, 9, 0);
    }

    private static void assigned() {
        InnerCaptures x = new InnerCaptures();
        x.type(TOP, 0, 0);
        x.local(0, 0, 10);
        x.local(0, 0, 11);
        x.local(0, 1, 12);
        x.type(LOCAL, 0, 1);
        x.make(0, 0, 0);
        x.make(1, 0, 1);
        x.assign(0, 0, 5);
        due.isFound("an earlier one of the name", x.see(1, 0), x, 11, 0);
        x.assign(0, 1, 5);
        due.isFound("assigned", x.see(1, 0), x, 0, 7);
        due.isFound("put: assigned", x.put(1, 0, 1), x, 7, 7);
        due.isFound("another name", x.see(1, 1), x, 12, 0);
        x.make(1, 0, 2);
        due.isFound("of new ones too", x.see(2, 0), x, 0, 7);
    }

    private static void cutCopies() {
        InnerCaptures x = new InnerCaptures();
        x.type(TOP, 0, 0);
        x.local(0, 0, 10);
        x.local(0, 1, 11);
        x.type(LOCAL, 0, 1);
        x.type(STATIC, 1, 2);
        x.make(2, 0, 0);
        due.isFound("no object with a copy", x.see(0, 0), x, 0, 4);
        x.assign(0, 0, 1);
        due.isFound("7 ahead of 4", x.see(0, 0), x, 0, 7);
        due.isFound("put: 4", x.put(0, 1, 1), x, 4, 4);
    }

    private static void unknown() {
        InnerCaptures x = new InnerCaptures();
        x.type(TOP, 0, 0);
        x.type(INNER, 0, 1);
        x.field(1, 0, 1, false);
        x.make(0, 0, 0);
        x.make(1, 0, 1);
        due.isFound("fields within are not seen", x.see(0, 0), x, 0, 8);
        due.isFound("nowhere", x.see(1, 7), x, 0, 8);
        due.isFound("put: nowhere", x.put(1, 7, 1), x, 8, 8);
    }

    private static void putFields() {
        InnerCaptures x = new InnerCaptures();
        x.type(TOP, 0, 0);
        x.field(0, 0, 1, false);
        x.type(INNER, 0, 1);
        x.make(0, 0, 0);
        x.make(0, 0, 1);
        x.make(1, 0, 2);
        x.make(1, 1, 3);
        due.isFound("put around", x.put(2, 0, Long.MIN_VALUE), x, 0, 0);
        due.is("seen there", x.see(0, 0), Long.MIN_VALUE);
        due.is("not at the other one", x.see(3, 0), 1);
        x.free(0);
        due.is("held by what it is around of", x.see(2, 0), Long.MIN_VALUE);
    }

    private static void putRefused() {
        InnerCaptures x = new InnerCaptures();
        x.type(TOP, 0, 0);
        x.field(0, 0, 1, false);
        x.make(0, 0, 0);
        x.see(0, 0);
        due.is("refused behind a see", x.put(0, 1, 99), 8);
        due.is("refused behind a see", x.put(0, 8, 99), BAD);
        due.is("refused behind a see", x.put(3, 0, 99), 9);
        due.is("nothing changed", x.see(0, 0), 1);
    }

    private static void twelveDeep() {
        InnerCaptures x = new InnerCaptures();
        x.type(TOP, 0, 0);
        x.field(0, 0, 5, false);
        x.make(0, 0, 0);
        for (int i = 1; i < 12; i++) {
            x.type(INNER, i - 1, i);
            x.make(i, (i - 1) % 8, i % 8);
        }
        due.isFound("eleven steps out", x.see(3, 0), x, 5, 0);
        due.isFound("nowhere on the way", x.see(3, 1), x, 0, 8);
        due.isFound("that, eleven steps out", x.that(3, 0, 7), x, 0, 0);
        due.isFound("seen there", x.see(7, 0), x, 5, 0);
    }

    private static void twelveHigh() {
        InnerCaptures x = new InnerCaptures();
        for (int i = 0; i < 12; i++) {
            x.type(TOP, 0, i);
            x.parent(i, i - 1);
        }
        x.field(0, 7, 5, false);
        due.is("a ring of twelve", x.parent(0, 11), -4);
        x.make(11, 0, 0);
        due.is("levels", x.about(0, 1), 12);
        due.isFound("eleven steps up", x.see(0, 7), x, 5, 0);
        due.isFound("put there", x.put(0, 7, 6), x, 0, 0);
        due.isFound("seen there", x.see(0, 7), x, 6, 0);
    }

    private static void constant() {
        InnerCaptures x = new InnerCaptures();
        due.isFound("no type", x.constant(0, 0), x, 0, BAD);
        x.type(TOP, 0, 0);
        x.field(0, 5, 50, false);
        x.field(0, 6, 60, true);
        x.field(0, 1, -10, true);
        due.isFound("not static", x.constant(0, 0), x, 0, BAD);
        due.isFound("number 1", x.constant(0, 1), x, 60, 0);
        due.isFound("number 2", x.constant(0, 2), x, -10, 0);
        due.isFound("number 3", x.constant(0, 3), x, 0, BAD);
        due.isFound("number 4", x.constant(0, 4), x, 0, BAD);
        due.isFound("number -1", x.constant(0, -1), x, 0, BAD);
        due.isFound("type -1", x.constant(-1, 1), x, 0, BAD);
        due.isFound("type 1", x.constant(1, 1), x, 0, BAD);
        x.make(0, 0, 0);
        x.put(0, 6, 61);
        due.isFound("as it was put", x.constant(0, 1), x, 61, 0);
        x.field(0, 0, 70, true);
        due.isFound("the last of four", x.constant(0, 3), x, 70, 0);
        due.isFound("behind the last of four", x.constant(0, 4), x, 0, BAD);
        due.isFound("a number far off", x.constant(0, Integer.MAX_VALUE), x, 0, BAD);
    }

    private static void why() {
        InnerCaptures x = new InnerCaptures();
        due.is("none yet", x.why(), 0);
        x.see(0, 0);
        due.is("see", x.why(), 9);
        x.type(TOP, 0, 0);
        x.type(TOP, 0, 0);
        x.field(0, 9, 0, false);
        x.local(0, 9, 0);
        x.assign(0, 9, 0);
        x.method(9, true);
        x.parent(0, 0);
        x.name(0, 0);
        x.share(0, 9);
        x.free(0);
        x.about(0, 0);
        x.same(0, 0);
        x.lambda(0, 0);
        x.count(0);
        x.why();
        due.is("others leave it", x.why(), 9);
        x.make(0, 0, 0);
        due.is("make", x.why(), 0);
        x.seen(0, 0);
        due.is("seen", x.why(), BAD);
        x.that(0, 0, 1);
        due.is("that", x.why(), 0);
        x.put(0, 0, 1);
        due.is("put", x.why(), 8);
    }
}
