import java.io.IOException;
import java.lang.reflect.Constructor;
import java.lang.reflect.Field;
import java.lang.reflect.Method;
import java.lang.reflect.Modifier;
import java.nio.file.Files;
import java.nio.file.Path;
import java.util.Arrays;
import java.util.Set;
import java.util.TreeSet;
import java.util.regex.Matcher;
import java.util.regex.Pattern;

/** The face is the document's, and the file keeps those rules of LANGUAGE.md that a text search can look after. */
public final class LanguageTest {
    private static final String OUTSIDE = "IndexOutOfBoundsException";
    private static final String ARGUMENT = "IllegalArgumentException";
    private static final String STATE = "IllegalStateException";
    private static final Checks CHECKS = new Checks();

    /** Each method as: result, name, number of int arguments, exceptions. */
    private static final String[] FACE = {
        "int thermometer 4 " + OUTSIDE + " " + ARGUMENT + " " + STATE,
        "int hour 1 " + ARGUMENT + " " + STATE,
        "int hours 2 " + ARGUMENT + " " + STATE,
        "int period 2 " + OUTSIDE + " " + ARGUMENT,
        "int calibrate 1 " + OUTSIDE,
        "int knock 2 " + OUTSIDE + " " + ARGUMENT + " " + STATE,
        "int set 2 " + OUTSIDE + " " + ARGUMENT,
        "int append 1 " + ARGUMENT + " " + STATE,
        "int clearBuffer 0",
        "int firstError 0",
        "int execute 0 " + ARGUMENT,
        "int undo 0 " + STATE,
        "int keep 1 " + ARGUMENT,
        "int goBack 1 " + ARGUMENT + " " + STATE,
        "int ofThermometer 2 " + OUTSIDE + " " + ARGUMENT,
        "int reading 3 " + OUTSIDE + " " + ARGUMENT,
        "int row 2 " + OUTSIDE + " " + ARGUMENT,
        "int count 1 " + ARGUMENT,
        "int ranked 2 " + ARGUMENT,
        "int between 2",
        "int ifLag 2 " + OUTSIDE + " " + ARGUMENT,
        "int bestLag 1 " + OUTSIDE,
        "int ifStill 2 " + ARGUMENT,
        "int stillIn 1 " + OUTSIDE,
        "double meanError 0"};

    private static final String[] FORBIDDEN = {"->", "::", "\\bcatch\\b", "\\bfinally\\b", "\\bsynchronized\\b", "\\bassert\\b",
        "\\bimport\\b", "\\bpackage\\b", "\\bstatic\\s*\\{", "Exact\\(", "\\bSystem\\.", "\\bObject\\b", "\\bM(?:IN|AX)_VALUE\\b", "\\binstanceof\\b",
        "\"\\s*\\+", "\\+\\s*\"", "\\bequals\\(", "\\bhashCode\\(", "\\btoString\\("};

    public static void main(String[] args) throws IOException {
        faceIsTheDocuments();
        sizesKeepToTheLanguage();
        sourceKeepsToTheLanguage();
        CHECKS.finish("LanguageTest");
    }

    private static void faceIsTheDocuments() {
        Class<?> x = LateThermometers.class;
        CHECKS.same("the class is public and final", x.getModifiers() & (Modifier.PUBLIC | Modifier.FINAL), Modifier.PUBLIC | Modifier.FINAL);
        Set<String> open = new TreeSet<>();
        Set<String> openNames = new TreeSet<>();
        Set<String> hiddenNames = new TreeSet<>();
        for (Method method : x.getDeclaredMethods()) {
            if (Modifier.isPrivate(method.getModifiers())) {
                hiddenNames.add(method.getName());
            } else {
                open.add(told(method));
                openNames.add(method.getName());
            }
        }
        CHECKS.sameText("the methods", open.toString(), new TreeSet<>(Arrays.asList(FACE)).toString());
        for (Class<?> inside : x.getDeclaredClasses()) {
            CHECKS.isTrue(inside + " is static and not public", Modifier.isStatic(inside.getModifiers())
                && !Modifier.isPublic(inside.getModifiers()) && !Modifier.isProtected(inside.getModifiers()));
            for (Method method : inside.getDeclaredMethods()) {
                hiddenNames.add(method.getName());
            }
        }
        hiddenNames.retainAll(openNames);
        CHECKS.sameText("names of the face that others bear", hiddenNames.toString(), "[]");
        for (Field field : x.getDeclaredFields()) {
            CHECKS.isTrue(field + " is private, or NONE", Modifier.isPrivate(field.getModifiers()) || field.getName().equals("NONE"));
            CHECKS.isTrue(field + " is final", Modifier.isFinal(field.getModifiers()));
        }
        Constructor<?>[] constructors = x.getDeclaredConstructors();
        CHECKS.same("constructors", constructors.length, 1);
        CHECKS.same("the constructor is public", constructors[0].getModifiers(), Modifier.PUBLIC);
    }

    private static String told(Method method) {
        StringBuilder text = new StringBuilder();
        text.append(Modifier.toString(method.getModifiers()).replace("public", ""));
        text.append(method.getReturnType()).append(' ').append(method.getName());
        text.append(' ').append(Arrays.stream(method.getParameterTypes()).filter(type -> type == int.class).count());
        for (Class<?> exception : method.getExceptionTypes()) {
            text.append(' ').append(exception.getSimpleName());
        }
        return text.toString();
    }

    /** Rule 11, but for the depth of the calls. */
    private static void sizesKeepToTheLanguage() throws IOException {
        Class<?>[] inside = LateThermometers.class.getDeclaredClasses();
        CHECKS.isTrue("the file has at most twelve classes", inside.length < 12);
        for (Class<?> each : inside) {
            sizesKeepToTheLanguage(each);
        }
        sizesKeepToTheLanguage(LateThermometers.class);
        methodsAreShort();
    }

    /** The classes inside come behind all methods of the face; a method is told by the indent of its last brace. */
    private static void methodsAreShort() throws IOException {
        String[] lines = source().split("\n");
        String end = "    }";
        int endBefore = 0;
        for (int i = 0; i < lines.length; i++) {
            if (lines[i].matches("    \\w.* class .*")) {
                end = "        }";
                endBefore = i;
            } else if (lines[i].equals(end)) {
                CHECKS.isTrue("the method that ends in line " + (i + 1) + " is short", i - endBefore <= 60);
                endBefore = i;
            }
        }
    }

    private static void sizesKeepToTheLanguage(Class<?> each) {
        long fields = Arrays.stream(each.getDeclaredFields()).filter(field -> !Modifier.isStatic(field.getModifiers())).count();
        CHECKS.isTrue(each + " has at most twenty fields", fields <= 20);
        for (Method method : each.getDeclaredMethods()) {
            CHECKS.isTrue(method + " takes at most seven parameters", method.getParameterCount() <= 7);
        }
    }

    private static String source() throws IOException {
        return Files.readString(Path.of(System.getProperty("program", "src/main/java/LateThermometers.java")));
    }

    private static void sourceKeepsToTheLanguage() throws IOException {
        String source = source();
        String code = source.replaceAll("(?s)/\\*.*?\\*/", "").replaceAll("//[^\n]*", "");
        for (String word : FORBIDDEN) {
            Matcher matcher = Pattern.compile(word).matcher(code);
            CHECKS.isTrue("there is no " + word + " in the program", !matcher.find());
        }
        Matcher thrown = Pattern.compile("throw\\s+(?!new (?:IllegalStateException|IllegalArgumentException|IndexOutOfBoundsException)\\(\"[^\"]*\"\\);)").matcher(code);
        CHECKS.isTrue("each throw makes an exception of the document", !thrown.find());
        Matcher statics = Pattern.compile("\\bstatic\\s+(?!final\\b)[^({;]*[=;]").matcher(code);
        CHECKS.isTrue("each static field is final", !statics.find());
        CHECKS.isTrue("the signs are 1 to 127", source.chars().allMatch(sign -> sign >= 1 && sign <= 127));
    }
}
