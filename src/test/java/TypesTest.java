/** Promises 1 to 8: a new object, types, fields, locals, methods, parents, class names. */
public final class TypesTest {
    private static final int BAD = -1, FULL = -2, NONE = -3, TAKEN = -4;
    private static final int TOP = 0, STATIC = 1, INNER = 2, LOCAL = 3, RECORD = 4, UNNAMED = 5;
    private static final Due due = new Due();

    public static void main(String[] args) {
        newObject();
        typesAsTheyCome();
        badTypes();
        fullTypes();
        takenLetters();
        fields();
        locals();
        assign();
        method();
        parent();
        classNames();
        longClassNames();
        due.end();
    }

    private static void newObject() {
        InnerCaptures x = new InnerCaptures();
        for (int what = 0; what < 4; what++) {
            due.is("new count(" + what + ")", x.count(what), 0);
        }
        due.is("new why()", x.why(), 0);
        for (int place = 0; place < 8; place++) {
            due.is("new about(" + place + ", 0)", x.about(place, 0), NONE);
        }
        due.is("new type 0", x.name(0, NONE), BAD);
        InnerCaptures other = new InnerCaptures();
        other.type(TOP, 0, 0);
        due.is("objects share no types", x.count(0), 0);
    }

    private static void typesAsTheyCome() {
        InnerCaptures x = new InnerCaptures();
        due.is("top", x.type(TOP, 0, 25), 0);
        due.is("top without a look at outer", x.type(TOP, -77, 0), 1);
        for (int kind = STATIC; kind <= RECORD; kind++) {
            due.is("kind " + kind, x.type(kind, 0, kind), kind + 1);
        }
        due.is("unnamed without a look at letter", x.type(UNNAMED, 0, -5), 6);
        due.is("unnamed without a look at letter", x.type(UNNAMED, 6, 26), 7);
        due.is("count(0)", x.count(0), 8);
    }

    private static void badTypes() {
        InnerCaptures x = new InnerCaptures();
        due.is("no outer yet", x.type(INNER, 0, 1), BAD);
        x.type(TOP, 0, 0);
        due.is("kind -1", x.type(-1, 0, 1), BAD);
        due.is("kind 6", x.type(6, 0, 1), BAD);
        for (int kind = TOP; kind <= RECORD; kind++) {
            due.is("letter -1 of kind " + kind, x.type(kind, 0, -1), BAD);
            due.is("letter 26 of kind " + kind, x.type(kind, 0, 26), BAD);
        }
        for (int kind = STATIC; kind <= UNNAMED; kind++) {
            due.is("outer -1 of kind " + kind, x.type(kind, -1, 1), BAD);
            due.is("outer itself of kind " + kind, x.type(kind, 1, 1), BAD);
            due.is("outer far off of kind " + kind, x.type(kind, Integer.MAX_VALUE, 1), BAD);
        }
        due.is("nothing came", x.count(0), 1);
    }

    private static void fullTypes() {
        InnerCaptures x = new InnerCaptures();
        for (int i = 0; i < 12; i++) {
            due.is("type " + i, x.type(TOP, 0, i), i);
        }
        due.is("a 13th", x.type(TOP, 0, 20), FULL);
        due.is("a 13th, unnamed", x.type(UNNAMED, 11, 0), FULL);
        due.is("FULL ahead of TAKEN", x.type(TOP, 0, 3), FULL);
        due.is("BAD ahead of FULL", x.type(TOP, 0, 26), BAD);
        due.is("BAD outer ahead of FULL", x.type(INNER, 12, 20), BAD);
        due.is("count(0)", x.count(0), 12);
    }

    private static void takenLetters() {
        InnerCaptures x = new InnerCaptures();
        x.type(TOP, 0, 0);
        x.type(TOP, 0, 1);
        due.is("letter of a top", x.type(TOP, 0, 1), TAKEN);
        due.is("letter of a top elsewhere", x.type(STATIC, 0, 1), 2);
        due.is("letter of the outer one", x.type(INNER, 2, 1), TAKEN);
        due.is("letter of the outer one's outer one", x.type(LOCAL, 2, 0), TAKEN);
        due.is("of a record", x.type(RECORD, 2, 0), TAKEN);
        due.is("unnamed in between", x.type(UNNAMED, 2, 0), 3);
        due.is("an unnamed one has no letter to be taken", x.type(UNNAMED, 3, 0), 4);
        due.is("letter beyond unnamed ones", x.type(LOCAL, 4, 1), TAKEN);
        due.is("another member's", x.type(INNER, 0, 1), TAKEN);
        due.is("another member's", x.type(STATIC, 0, 1), TAKEN);
        due.is("a local beside a member", x.type(LOCAL, 0, 1), 5);
        due.is("a local beside a local", x.type(LOCAL, 0, 1), 6);
        due.is("a record beside both", x.type(RECORD, 0, 1), 7);
        due.is("a local", x.type(LOCAL, 0, 5), 8);
        due.is("a member beside a local", x.type(INNER, 0, 5), 9);
        due.is("a member of another type", x.type(STATIC, 1, 5), 10);
        due.is("a top with a member's letter", x.type(TOP, 0, 5), 11);
    }

    private static void fields() {
        InnerCaptures x = new InnerCaptures();
        due.is("no type", x.field(0, 0, 1, false), BAD);
        x.type(TOP, 0, 0);
        x.type(RECORD, 0, 1);
        due.is("name -1", x.field(0, -1, 1, false), BAD);
        due.is("name 8", x.field(0, 8, 1, false), BAD);
        due.is("type -1", x.field(-1, 0, 1, false), BAD);
        due.is("first", x.field(0, 7, 1, false), 1);
        due.is("name there", x.field(0, 7, 1, true), TAKEN);
        due.is("second", x.field(0, 0, Long.MIN_VALUE, true), 2);
        due.is("another type's", x.field(1, 7, 1, true), 1);
        due.is("third", x.field(0, 1, 1, false), 3);
        due.is("fourth", x.field(0, 2, 1, false), 4);
        due.is("fifth", x.field(0, 3, 1, false), FULL);
        due.is("FULL ahead of TAKEN", x.field(0, 7, 1, false), FULL);
        due.is("BAD ahead of FULL", x.field(0, 8, 1, false), BAD);
        due.is("refused ones changed nothing", x.constant(0, 1), Long.MIN_VALUE);
    }

    private static void locals() {
        InnerCaptures x = new InnerCaptures();
        due.is("no type", x.local(0, 0, 1), BAD);
        x.type(TOP, 0, 0);
        due.is("name -1", x.local(0, -1, 1), BAD);
        due.is("name 8", x.local(0, 8, 1), BAD);
        due.is("type 1", x.local(1, 0, 1), BAD);
        for (int i = 1; i <= 4; i++) {
            due.is("local " + i, x.local(0, 7, i), i);
        }
        due.is("fifth", x.local(0, 0, 1), FULL);
        due.is("BAD ahead of FULL", x.local(0, 8, 1), BAD);
    }

    private static void assign() {
        InnerCaptures x = new InnerCaptures();
        due.is("no type", x.assign(0, 0, 1), BAD);
        x.type(TOP, 0, 0);
        due.is("no locals", x.assign(0, 0, 1), BAD);
        x.local(0, 3, 1);
        x.local(0, 3, 2);
        due.is("local -1", x.assign(0, -1, 1), BAD);
        due.is("local 2", x.assign(0, 2, 1), BAD);
        due.is("local 4", x.assign(0, 4, 1), BAD);
        due.is("the first time", x.assign(0, 1, 1), 0);
        due.is("the second time", x.assign(0, 1, 1), 1);
        due.is("another one", x.assign(0, 0, 1), 0);
        due.is("type -1", x.assign(-1, 0, 1), BAD);
    }

    private static void method() {
        InnerCaptures x = new InnerCaptures();
        due.is("no type", x.method(0, true), BAD);
        x.type(TOP, 0, 0);
        due.is("type -1", x.method(-1, true), BAD);
        due.is("was not", x.method(0, true), 0);
        due.is("was", x.method(0, true), 1);
        due.is("was", x.method(0, false), 1);
        due.is("was not", x.method(0, false), 0);
        x.type(INNER, 0, 1);
        x.type(STATIC, 0, 2);
        due.is("members stand in no method", x.method(0, false), 0);
        x.local(0, 0, 0);
        due.is("locals are no types", x.method(0, false), 0);
        for (int kind = LOCAL; kind <= UNNAMED; kind++) {
            int owner = x.type(TOP, 0, 10 + kind);
            x.type(kind, owner, 1);
            due.is("kind " + kind + " stands in it", x.method(owner, true), TAKEN);
            due.is("also if nothing would change", x.method(owner, false), TAKEN);
            due.is("its own is another", x.method(owner + 1, true), 0);
        }
        due.is("a top without", x.method(0, true), 0);
    }

    private static void parent() {
        InnerCaptures x = new InnerCaptures();
        for (int i = 0; i < 4; i++) {
            x.type(TOP, 0, i);
        }
        x.type(RECORD, 0, 8);
        due.is("type -1", x.parent(-1, 0), BAD);
        due.is("above -1", x.parent(0, -1), BAD);
        due.is("type 5", x.parent(5, 0), BAD);
        due.is("above 5", x.parent(0, 5), BAD);
        due.is("of a record", x.parent(4, 0), BAD);
        due.is("a record", x.parent(0, 4), BAD);
        due.is("a record of itself", x.parent(4, 4), BAD);
        due.is("itself", x.parent(0, 0), TAKEN);
        due.is("1 below 0", x.parent(1, 0), 1);
        due.is("it has one", x.parent(1, 3), TAKEN);
        due.is("the same again", x.parent(1, 0), TAKEN);
        due.is("0 is above of 1", x.parent(0, 1), TAKEN);
        due.is("2 below 1", x.parent(2, 1), 1);
        due.is("0 is above of 2", x.parent(0, 2), TAKEN);
        due.is("another child", x.parent(3, 1), 1);
        due.is("BAD ahead of TAKEN", x.parent(1, 4), BAD);
        x.make(2, 0, 0);
        due.is("levels of 2, 1, 0", x.about(0, 1), 3);
    }

    private static void isNamed(InnerCaptures x, int type, String text) {
        due.is("length of " + text, x.name(type, NONE), text.length());
        for (int i = 0; i < text.length(); i++) {
            due.is("byte " + i + " of " + text, x.name(type, i), text.charAt(i));
        }
        due.is("behind the last of " + text, x.name(type, text.length()), BAD);
    }

    private static void classNames() {
        InnerCaptures x = new InnerCaptures();
        x.type(TOP, 0, 25);
        x.type(INNER, 0, 0);
        x.type(STATIC, 1, 1);
        x.type(LOCAL, 2, 2);
        x.type(RECORD, 2, 2);
        x.type(UNNAMED, 2, 2);
        x.type(LOCAL, 2, 3);
        x.type(UNNAMED, 2, 0);
        x.type(LOCAL, 1, 2);
        x.type(INNER, 7, 2);
        x.type(UNNAMED, 7, 2);
        x.type(LOCAL, 2, 2);
        String[] texts = {"Z", "Z$A", "Z$A$B", "Z$A$B$1C", "Z$A$B$2C", "Z$A$B$1", "Z$A$B$1D",
            "Z$A$B$2", "Z$A$1C", "Z$A$B$2$C", "Z$A$B$2$1", "Z$A$B$3C"};
        for (int i = 0; i < texts.length; i++) {
            isNamed(x, i, texts[i]);
        }
        due.is("byte -1", x.name(0, -1), BAD);
        due.is("byte -2", x.name(0, -2), BAD);
        due.is("byte -4", x.name(0, -4), BAD);
        due.is("type -1", x.name(-1, 0), BAD);
        due.is("type 12", x.name(12, NONE), BAD);
        InnerCaptures members = new InnerCaptures();
        members.type(TOP, 0, 0);
        members.type(INNER, 0, 1);
        members.type(LOCAL, 0, 1);
        isNamed(members, 2, "A$1B");
    }

    private static void longClassNames() {
        InnerCaptures x = new InnerCaptures();
        x.type(TOP, 0, 0);
        for (int i = 1; i < 12; i++) {
            x.type(UNNAMED, 0, 0);
        }
        isNamed(x, 9, "A$9");
        isNamed(x, 10, "A$10");
        isNamed(x, 11, "A$11");
        InnerCaptures deep = new InnerCaptures();
        deep.type(TOP, 0, 0);
        StringBuilder text = new StringBuilder("A");
        for (int i = 1; i < 12; i++) {
            deep.type(LOCAL, i - 1, i);
            text.append("$1").append((char) ('A' + i));
        }
        isNamed(deep, 11, text.toString());
    }
}
