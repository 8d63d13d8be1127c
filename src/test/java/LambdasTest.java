/** Promises 18, 19 and 21: lambdas, what is seen from them, counts. */
public final class LambdasTest {
    private static final int BAD = -1, FULL = -2, NONE = -3;
    private static final int TOP = 0, INNER = 2, LOCAL = 3, RECORD = 4;
    private static final Due due = new Due();

    public static void main(String[] args) {
        lambda();
        fullLambdas();
        seenLocals();
        seenFromTheType();
        seenInAStaticMethod();
        seenAfterTheMethodChanged();
        seenBehindARecord();
        wrongNumbers();
        count();
        due.end();
    }

    private static void lambda() {
        InnerCaptures x = new InnerCaptures();
        due.is("place -1", x.lambda(-1, 0), BAD);
        due.is("place 8", x.lambda(8, 0), BAD);
        due.is("nothing", x.lambda(0, 0), NONE);
        due.is("NONE ahead of BAD n", x.lambda(0, -1), NONE);
        x.type(TOP, 0, 0);
        x.local(0, 0, 1);
        x.local(0, 1, 2);
        x.make(0, 0, 0);
        due.is("n -1", x.lambda(0, -1), BAD);
        due.is("n 3", x.lambda(0, 3), BAD);
        due.is("BAD place ahead of all", x.lambda(8, -1), BAD);
        due.is("n 2", x.lambda(0, 2), 0);
        due.is("n 0", x.lambda(0, 0), 1);
        x.local(0, 2, 3);
        due.is("n 3", x.lambda(0, 3), 2);
        due.is("count(2)", x.count(2), 3);
    }

    private static void fullLambdas() {
        InnerCaptures x = new InnerCaptures();
        x.type(TOP, 0, 0);
        x.make(0, 0, 0);
        for (int i = 0; i < 6; i++) {
            due.is("lambda " + i, x.lambda(0, 0), i);
        }
        due.is("a seventh", x.lambda(0, 0), FULL);
        due.is("BAD n ahead of FULL", x.lambda(0, 1), BAD);
        due.is("NONE ahead of FULL", x.lambda(1, 0), NONE);
        due.is("BAD place ahead of FULL", x.lambda(-1, 0), BAD);
        due.is("count(2)", x.count(2), 6);
    }

    private static void seenLocals() {
        InnerCaptures x = new InnerCaptures();
        x.type(TOP, 0, 0);
        x.local(0, 0, 10);
        x.local(0, 1, 11);
        x.local(0, 0, 12);
        x.field(0, 0, 99, false);
        x.make(0, 0, 0);
        x.lambda(0, 3);
        x.lambda(0, 2);
        x.lambda(0, 0);
        due.isFound("the latest of three", x.seen(0, 0), x, 12, 0);
        due.isFound("the latest of two", x.seen(1, 0), x, 10, 0);
        due.isFound("another", x.seen(1, 1), x, 11, 0);
        due.isFound("of none: the field", x.seen(2, 0), x, 99, 0);
        due.isFound("of none: nowhere", x.seen(2, 1), x, 0, 8);
        x.assign(0, 2, 5);
        due.isFound("assigned", x.seen(0, 0), x, 0, 7);
        due.isFound("a later one of the name is", x.seen(1, 0), x, 10, 0);
        x.assign(0, 1, 5);
        due.isFound("assigned", x.seen(0, 1), x, 0, 7);
        x.free(0);
        due.isFound("it holds its object", x.seen(2, 0), x, 99, 0);
    }

    private static void seenFromTheType() {
        InnerCaptures x = new InnerCaptures();
        x.type(TOP, 0, 0);
        x.field(0, 1, 5, false);
        x.local(0, 2, 6);
        x.type(LOCAL, 0, 1);
        x.field(1, 3, 7, false);
        x.make(0, 0, 0);
        x.make(1, 0, 1);
        x.lambda(1, 0);
        due.isFound("a field around", x.seen(0, 1), x, 5, 0);
        due.isFound("a copy of the object", x.seen(0, 2), x, 6, 0);
        due.isFound("a field", x.seen(0, 3), x, 7, 0);
        x.put(1, 3, 8);
        due.isFound("the field is no copy", x.seen(0, 3), x, 8, 0);
        due.isFound("nowhere", x.seen(0, 4), x, 0, 8);
        x.field(1, 4, 1, false);
        due.isFound("late", x.seen(0, 4), x, 0, 5);
    }

    private static void seenInAStaticMethod() {
        InnerCaptures x = new InnerCaptures();
        x.type(TOP, 0, 0);
        x.local(0, 2, 6);
        x.type(LOCAL, 0, 1);
        x.field(1, 0, 1, false);
        x.field(1, 1, 2, true);
        x.local(1, 3, 9);
        x.method(1, true);
        x.make(0, 0, 0);
        x.make(1, 0, 1);
        x.lambda(1, 1);
        due.isFound("its copy", x.seen(0, 3), x, 9, 0);
        due.isFound("cut off from fields", x.seen(0, 0), x, 0, 4);
        due.isFound("not from static ones", x.seen(0, 1), x, 2, 0);
        due.isFound("cut off from the object's copies", x.seen(0, 2), x, 0, 4);
    }

    private static void seenAfterTheMethodChanged() {
        InnerCaptures x = new InnerCaptures();
        x.type(TOP, 0, 0);
        x.field(0, 0, 1, false);
        x.make(0, 0, 0);
        x.lambda(0, 0);
        due.is("a lambda is no type", x.method(0, true), 0);
        x.lambda(0, 0);
        x.method(0, false);
        due.isFound("it kept the object", x.seen(0, 0), x, 1, 0);
        due.isFound("it kept none", x.seen(1, 0), x, 0, 4);
    }

    private static void seenBehindARecord() {
        InnerCaptures x = new InnerCaptures();
        x.type(TOP, 0, 0);
        x.local(0, 0, 1);
        x.type(RECORD, 0, 1);
        x.local(1, 1, 2);
        x.make(1, 0, 0);
        x.lambda(0, 1);
        due.isFound("locals of the record's own method", x.seen(0, 1), x, 2, 0);
        due.isFound("locked", x.seen(0, 0), x, 0, 6);
    }

    private static void wrongNumbers() {
        InnerCaptures x = new InnerCaptures();
        due.isFound("no lambda", x.seen(0, 0), x, 0, BAD);
        x.type(TOP, 0, 0);
        x.field(0, 0, 1, false);
        x.make(0, 0, 0);
        x.lambda(0, 0);
        due.isFound("lambda -1", x.seen(-1, 0), x, 0, BAD);
        due.isFound("lambda 1", x.seen(1, 0), x, 0, BAD);
        due.isFound("lambda 6", x.seen(6, 0), x, 0, BAD);
        due.isFound("name -1", x.seen(0, -1), x, 0, BAD);
        due.isFound("name 8", x.seen(0, 8), x, 0, BAD);
        due.isFound("lambda 0", x.seen(0, 0), x, 1, 0);
    }

    private static void count() {
        InnerCaptures x = new InnerCaptures();
        due.is("what -1", x.count(-1), BAD);
        due.is("what 4", x.count(4), BAD);
        x.type(TOP, 0, 0);
        x.type(INNER, 0, 1);
        x.make(0, 0, 0);
        x.make(0, 0, 0);
        x.make(1, 0, 7);
        x.make(1, 5, 6);
        x.share(0, 3);
        x.lambda(0, 0);
        due.is("types", x.count(0), 2);
        due.is("objects that were made", x.count(1), 3);
        due.is("lambdas", x.count(2), 1);
        due.is("places", x.count(3), 3);
        x.free(0);
        due.is("places", x.count(3), 2);
        due.is("objects that were made", x.count(1), 3);
    }
}
