import java.io.IOException;
import java.io.UncheckedIOException;
import java.lang.reflect.Constructor;
import java.lang.reflect.Executable;
import java.lang.reflect.Field;
import java.lang.reflect.Method;
import java.lang.reflect.Modifier;
import java.nio.file.Files;
import java.nio.file.Path;
import java.util.ArrayList;
import java.util.List;
import java.util.Set;
import java.util.TreeSet;
import java.util.regex.Pattern;

/** The public face of the document, and the rules of LANGUAGE.md that the text or the compiled class can tell. */
public final class RulesTest {
    private static final Check CHECK = new Check("RulesTest");
    private static final Path SOURCE = Path.of("src/main/java/FluxModes.java");
    private static final Set<String> FACE = Set.of(
        "boolean size(int,int)", "boolean enter(int,int,int)", "int entry(int,int)",
        "boolean reversible(int,boolean)", "int reversibles()", "int solve()", "int modes()",
        "int support(int)", "int rate(int,int)", "int within(int)", "int running(int,int)",
        "int shortest(int)");
    /** The class and those inside it, whatever they are nested in. */
    private static final List<Class<?>> CLASSES = List.of(FluxModes.class.getNestMembers());
    private static final Compiled COMPILED = new Compiled(CLASSES.stream().map(Class::getName).toList());
    private static final String TEXT = text();

    public static void main(String[] args) {
        CHECK.sentence("one file, without a package line", RulesTest::oneFile);
        CHECK.sentence("rule 1: the face", RulesTest::face);
        CHECK.sentence("rule 1: no private method bears the name of a public one", RulesTest::names);
        CHECK.sentence("rule 2: classes inside", RulesTest::classesInside);
        CHECK.sentence("rule 3: types", RulesTest::types);
        CHECK.sentence("rules 4 and 13: the library", RulesTest::library);
        CHECK.sentence("rule 5: static fields", RulesTest::staticFields);
        CHECK.sentence("rule 6: what is left out", RulesTest::leftOut);
        CHECK.sentence("rule 7: a divisor is looked at before it divides", RulesTest::divisions);
        CHECK.sentence("rules 8 and 11: how deep calls go", RulesTest::depths);
        CHECK.sentence("rule 11: how much there is", RulesTest::counts);
        CHECK.sentence("rule 12: what a run makes", RulesTest::madeObjects);
        CHECK.end();
    }

    private static void oneFile() {
        CHECK.due("the package", FluxModes.class.getPackageName().isEmpty(), true);
        CHECK.due("other files beside it", SOURCE.getParent().toFile().list().length, 1);
        CHECK.due("characters over 255", TEXT.chars().filter(c -> c > 255).count(), 0);
    }

    private static void face() {
        CHECK.due("the class is public and final",
            FluxModes.class.getModifiers() == (Modifier.PUBLIC | Modifier.FINAL), true);
        Set<String> found = new TreeSet<>();
        for (Method method : FluxModes.class.getDeclaredMethods()) {
            if (!Modifier.isPrivate(method.getModifiers())) {
                found.add(shown(method));
                CHECK.due(shown(method) + " is public and not static",
                    method.getModifiers() == Modifier.PUBLIC, true);
            }
        }
        CHECK.due("the methods are those of the document: " + found, found.equals(FACE), true);
        Constructor<?>[] made = FluxModes.class.getDeclaredConstructors();
        CHECK.due("constructors", made.length, 1);
        CHECK.due("the constructor is public", Modifier.isPublic(made[0].getModifiers()), true);
        CHECK.due("the constructor takes nothing", made[0].getParameterCount(), 0);
        for (Field field : FluxModes.class.getDeclaredFields()) {
            CHECK.due(field.getName() + " is private", Modifier.isPrivate(field.getModifiers()), true);
        }
    }

    private static void names() {
        Set<String> seen = new TreeSet<>();
        for (Method method : FluxModes.class.getDeclaredMethods()) {
            CHECK.due(method.getName() + " is the name of one method", seen.add(method.getName()), true);
        }
    }

    private static void classesInside() {
        for (Class<?> inside : CLASSES) {
            if (inside != FluxModes.class) {
                int modifiers = inside.getModifiers();
                CHECK.due(inside.getName() + " is a member, not local or anonymous", inside.isMemberClass(), true);
                CHECK.due(inside.getName() + " is static", Modifier.isStatic(modifiers), true);
                CHECK.due(inside.getName() + " is not public or protected",
                    Modifier.isPublic(modifiers) || Modifier.isProtected(modifiers), false);
            }
        }
        eachMethod("has a lambda, a method reference or a joined text", Set.of("invokedynamic"));
    }

    private static void types() {
        for (Class<?> type : CLASSES) {
            for (Field field : type.getDeclaredFields()) {
                Class<?> held = field.getType();
                Class<?> single = held.isArray() ? held.getComponentType() : held;
                CHECK.due(field.getName() + " is a number, an own class or a row of them: " + held,
                    single.isPrimitive() || CLASSES.contains(single), true);
            }
        }
    }

    /** The library's functions that the class uses; one more must be among those of rule 4 first. */
    private static void library() {
        Set<String> allowed = Set.of("java/lang/Object.\"<init>\"", "java/lang/Math.abs", "java/lang/Math.max",
            "java/lang/Math.min", "java/lang/Integer.bitCount", "java/util/Arrays.fill");
        COMPILED.methods.forEach((name, body) -> {
            for (String called : body.called) {
                CHECK.due(name + " may call " + called,
                    COMPILED.methods.containsKey(called) || allowed.contains(called), true);
            }
        });
    }

    private static void staticFields() {
        for (Class<?> type : CLASSES) {
            for (Field field : type.getDeclaredFields()) {
                if (Modifier.isStatic(field.getModifiers())) {
                    CHECK.due(field.getName() + " is final", Modifier.isFinal(field.getModifiers()), true);
                    CHECK.due(field.getName() + " is an int", field.getType() == int.class, true);
                }
            }
        }
        CHECK.due("a static block", Pattern.compile("\\bstatic\\s*\\{").matcher(TEXT).find(), false);
    }

    private static void leftOut() {
        for (String word : List.of("throw", "throws", "try", "catch", "synchronized", "assert")) {
            CHECK.due("the text has " + word, Pattern.compile("\\b" + word + "\\b").matcher(TEXT).find(), false);
        }
        eachMethod("throws, catches, waits or casts an object",
            Set.of("athrow", "catch", "monitorenter", "checkcast", "instanceof"));
    }

    /** Divisions stand in two methods alone, which look at the divisor on the same line or the line of the loop. */
    private static void divisions() {
        Set<String> looking = Set.of("FluxModes.commonDivisor", "FluxModes.quotient");
        Set<String> dividing = Set.of("idiv", "irem", "ldiv", "lrem");
        COMPILED.methods.forEach((name, body) ->
            CHECK.due(name + " divides", shares(body.instructions, dividing), looking.contains(name)));
    }

    private static void depths() {
        for (String name : COMPILED.methods.keySet()) {
            int depth = COMPILED.depth(name, 20);
            CHECK.due(name + " is no recursion and goes at most eight deep: " + depth, depth <= 8, true);
        }
    }

    private static void counts() {
        CHECK.due("at most twelve classes", CLASSES.size() <= 12, true);
        for (Class<?> type : CLASSES) {
            int held = 0;
            for (Field field : type.getDeclaredFields()) {
                held += Modifier.isStatic(field.getModifiers()) ? 0 : 1;
            }
            CHECK.due(type.getName() + " has at most twenty fields", held <= 20, true);
            List<Executable> all = new ArrayList<>(List.of(type.getDeclaredMethods()));
            all.addAll(List.of(type.getDeclaredConstructors()));
            for (Executable one : all) {
                CHECK.due(one + " takes at most seven", one.getParameterCount() <= 7, true);
            }
        }
        COMPILED.methods.forEach((name, body) ->
            CHECK.due(name + " stands on at most sixty lines", body.lastLine - body.firstLine < 60, true));
    }

    /** More than the rule asks: nothing is made but by constructors, so a run makes what its first call makes. */
    private static void madeObjects() {
        Set<String> making = Set.of("new", "newarray", "anewarray", "multianewarray");
        COMPILED.methods.forEach((name, body) ->
            CHECK.due(name + " makes objects", shares(body.instructions, making), name.endsWith("\"<init>\"")));
    }

    private static void eachMethod(String what, Set<String> instructions) {
        COMPILED.methods.forEach((name, body) ->
            CHECK.due(name + " " + what, shares(body.instructions, instructions), false));
    }

    private static boolean shares(Set<String> some, Set<String> others) {
        return some.stream().anyMatch(others::contains);
    }

    private static String shown(Method method) {
        StringBuilder text = new StringBuilder();
        for (Class<?> type : method.getParameterTypes()) {
            text.append(text.length() == 0 ? "" : ",").append(type.getName());
        }
        return method.getReturnType().getName() + " " + method.getName() + "(" + text + ")";
    }

    /** The source without its comments. */
    private static String text() {
        try {
            String text = Files.readString(SOURCE);
            return text.replaceAll("(?s)/\\*.*?\\*/", " ").replaceAll("//[^\n]*", " ");
        } catch (IOException e) {
            throw new UncheckedIOException(e);
        }
    }
}
