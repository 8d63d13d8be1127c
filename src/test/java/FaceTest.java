import java.io.IOException;
import java.lang.reflect.Constructor;
import java.lang.reflect.Field;
import java.lang.reflect.Method;
import java.lang.reflect.Modifier;
import java.nio.file.Files;
import java.nio.file.Path;
import java.util.ArrayList;
import java.util.List;
import java.util.Set;
import java.util.TreeSet;
import java.util.regex.Matcher;
import java.util.regex.Pattern;

/** The public face of the document, and those rules of LANGUAGE.md that can be seen from outside. */
public final class FaceTest {
    private static final String SOURCE = "src/main/java/InnerCaptures.java";
    private static final String[] METHODS = {
        "int type(int,int,int)", "int field(int,int,long,boolean)", "int local(int,int,long)",
        "int assign(int,int,long)", "int method(int,boolean)", "int parent(int,int)",
        "int name(int,int)", "int make(int,int,int)", "int share(int,int)", "int free(int)",
        "int about(int,int)", "int same(int,int)", "long see(int,int)", "int put(int,int,long)",
        "int that(int,int,int)", "long constant(int,int)", "int lambda(int,int)",
        "long seen(int,int)", "int why()", "int count(int)"};
    private static final Set<String> CONSTANTS = Set.of("BAD", "FULL", "NONE", "TAKEN");
    private static final String[] RULED_OUT = {"throw", "throws", "try", "catch", "synchronized",
        "assert", "protected", "->", "::", "hashCode", "toString\\(\\) \\{", "Exact\\b", "Object\\b",
        "\" \\+", "\\+ \"", "new \\w+\\([^()]*\\) \\{", "static \\{"};
    private static final Due due = new Due();

    public static void main(String[] args) throws IOException, NoSuchFieldException {
        constants();
        methods();
        nothingElseIsOpen();
        classesInside();
        wordsRuledOut();
        due.end();
    }

    private static void constants() throws NoSuchFieldException {
        due.is("BAD", InnerCaptures.BAD, -1);
        due.is("FULL", InnerCaptures.FULL, -2);
        due.is("NONE", InnerCaptures.NONE, -3);
        due.is("TAKEN", InnerCaptures.TAKEN, -4);
        for (String name : CONSTANTS) {
            Field field = InnerCaptures.class.getDeclaredField(name);
            due.is(name + " is public, static and final", field.getModifiers(), Modifier.PUBLIC | Modifier.STATIC | Modifier.FINAL);
            due.isTrue(name + " is an int", field.getType() == int.class);
        }
    }

    private static String signature(Method method) {
        List<String> types = new ArrayList<>();
        for (Class<?> type : method.getParameterTypes()) {
            types.add(type.getName());
        }
        return method.getReturnType().getName() + " " + method.getName() + "(" + String.join(",", types) + ")";
    }

    private static void methods() {
        Set<String> open = new TreeSet<>();
        Set<String> names = new TreeSet<>();
        for (Method method : InnerCaptures.class.getDeclaredMethods()) {
            if (Modifier.isPublic(method.getModifiers())) {
                open.add(signature(method));
                names.add(method.getName());
            }
        }
        due.isTrue("the public methods are the document's: " + open, open.equals(new TreeSet<>(List.of(METHODS))));
        for (Method method : InnerCaptures.class.getDeclaredMethods()) {
            boolean isOpen = Modifier.isPublic(method.getModifiers());
            due.isTrue(signature(method) + " is asked of an object if public", !isOpen || method.getModifiers() == Modifier.PUBLIC);
            due.isTrue(signature(method) + " is public or private", isOpen || Modifier.isPrivate(method.getModifiers()));
            due.isTrue(signature(method) + " has a name of its own", isOpen || !names.contains(method.getName()));
            due.isTrue(signature(method) + " takes at most seven", method.getParameterCount() <= 7);
        }
    }

    private static void nothingElseIsOpen() {
        due.is("the class is public and final", InnerCaptures.class.getModifiers(), Modifier.PUBLIC | Modifier.FINAL);
        due.isTrue("it has no class above it", InnerCaptures.class.getSuperclass() == Object.class);
        due.is("nor an interface", InnerCaptures.class.getInterfaces().length, 0);
        for (Field field : InnerCaptures.class.getDeclaredFields()) {
            due.isTrue(field + " is private", CONSTANTS.contains(field.getName()) || Modifier.isPrivate(field.getModifiers()));
            due.isTrue(field + " is final if static", !Modifier.isStatic(field.getModifiers()) || Modifier.isFinal(field.getModifiers()));
        }
        Constructor<?>[] constructors = InnerCaptures.class.getDeclaredConstructors();
        due.is("constructors", constructors.length, 1);
        due.is("its parameters", constructors[0].getParameterCount(), 0);
        due.isTrue("it is public", Modifier.isPublic(constructors[0].getModifiers()));
    }

    private static void classesInside() {
        Class<?>[] inside = InnerCaptures.class.getDeclaredClasses();
        due.isTrue("at most some twelve classes", inside.length < 12);
        for (Class<?> one : inside) {
            due.isTrue(one + " is static", Modifier.isStatic(one.getModifiers()));
            due.isTrue(one + " is not public", !Modifier.isPublic(one.getModifiers()));
            due.isTrue(one + " has some twenty fields at most", one.getDeclaredFields().length <= 20);
        }
    }

    private static void wordsRuledOut() throws IOException {
        String code = Files.readString(Path.of(SOURCE)).replaceAll("(?s)/\\*.*?\\*/", "").replaceAll("//[^\n]*", "");
        for (String word : RULED_OUT) {
            String pattern = Character.isLetter(word.charAt(0)) ? "\\b" + word : word;
            Matcher matcher = Pattern.compile(word.matches("[a-z]+") ? pattern + "\\b" : pattern).matcher(code);
            due.isTrue("no " + word + " in the program", !matcher.find());
        }
        Matcher imports = Pattern.compile("import ([^;]*);").matcher(code);
        while (imports.find()) {
            due.isTrue("import of " + imports.group(1), Set.of("java.util.Arrays", "java.util.ArrayList", "java.util.List").contains(imports.group(1)));
        }
    }
}
