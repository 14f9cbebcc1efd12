import java.io.IOException;
import java.lang.reflect.Constructor;
import java.lang.reflect.Field;
import java.lang.reflect.Method;
import java.lang.reflect.Modifier;
import java.nio.file.Files;
import java.nio.file.Path;
import java.util.Set;
import java.util.TreeSet;
import java.util.regex.Matcher;
import java.util.regex.Pattern;

/** The public face of the document, and the rules of LANGUAGE.md that a look at the text can tell. */
public final class RulesTest {
    private static final Check CHECK = new Check("RulesTest");
    private static final Path SOURCE = Path.of("src/main/java/FluxModes.java");
    private static final Set<String> FACE = Set.of(
        "boolean size(int,int)", "boolean enter(int,int,int)", "int entry(int,int)",
        "boolean reversible(int,boolean)", "int reversibles()", "int solve()", "int modes()",
        "int support(int)", "int rate(int,int)", "int within(int)", "int running(int,int)",
        "int shortest(int)");
    private static final Set<String> IMPORTS = Set.of(
        "java.util.ArrayList", "java.util.List", "java.util.Arrays", "java.util.Iterator");
    private static final String[] FORBIDDEN = {
        "\\bthrow\\b", "\\btry\\b", "\\bcatch\\b", "\\bsynchronized\\b", "\\bassert\\b", "->", "::",
        "\\bpackage\\b", "Exact\\b", "\\bstatic\\s*\\{", "\\bprotected\\b"};

    public static void main(String[] args) throws IOException {
        theFace();
        noOtherMember();
        theText();
        CHECK.end();
    }

    private static void theFace() {
        CHECK.due("the class is public and final",
            FluxModes.class.getModifiers() == (Modifier.PUBLIC | Modifier.FINAL), true);
        Set<String> found = new TreeSet<>();
        for (Method method : FluxModes.class.getDeclaredMethods()) {
            if (!Modifier.isPrivate(method.getModifiers())) {
                found.add(shown(method));
                CHECK.due(shown(method) + " is public and not static",
                    method.getModifiers() == Modifier.PUBLIC, true);
            }
        }
        CHECK.due("the methods are those of the document: " + found, found.equals(FACE), true);
        Constructor<?>[] made = FluxModes.class.getDeclaredConstructors();
        CHECK.due("constructors", made.length, 1);
        CHECK.due("the constructor is public", Modifier.isPublic(made[0].getModifiers()), true);
        CHECK.due("the constructor takes nothing", made[0].getParameterCount(), 0);
    }

    private static void noOtherMember() {
        for (Field field : FluxModes.class.getDeclaredFields()) {
            int modifiers = field.getModifiers();
            CHECK.due(field.getName() + " is private", Modifier.isPrivate(modifiers), true);
            CHECK.due(field.getName() + " is final if static",
                !Modifier.isStatic(modifiers) || Modifier.isFinal(modifiers), true);
        }
        for (Class<?> inside : FluxModes.class.getDeclaredClasses()) {
            int modifiers = inside.getModifiers();
            CHECK.due(inside.getName() + " is static", Modifier.isStatic(modifiers), true);
            CHECK.due(inside.getName() + " is not public", Modifier.isPublic(modifiers), false);
        }
    }

    private static void theText() throws IOException {
        String text = Files.readString(SOURCE);
        String code = text.replaceAll("(?s)/\\*.*?\\*/", " ").replaceAll("//[^\n]*", " ");
        for (String forbidden : FORBIDDEN) {
            CHECK.due("the text has " + forbidden, Pattern.compile(forbidden).matcher(code).find(), false);
        }
        Matcher imports = Pattern.compile("\\bimport\\s+([^;]+);").matcher(code);
        while (imports.find()) {
            CHECK.due("import of " + imports.group(1), IMPORTS.contains(imports.group(1).trim()), true);
        }
        CHECK.due("characters over 255", text.chars().filter(c -> c > 255).count(), 0);
    }

    private static String shown(Method method) {
        StringBuilder text = new StringBuilder();
        for (Class<?> type : method.getParameterTypes()) {
            text.append(text.length() == 0 ? "" : ",").append(type.getName());
        }
        return method.getReturnType().getName() + " " + method.getName() + "(" + text + ")";
    }
}
