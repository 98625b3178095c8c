import java.lang.reflect.Field;
import java.lang.reflect.Member;
import java.lang.reflect.Method;
import java.lang.reflect.Modifier;
import java.nio.file.Files;
import java.nio.file.Path;
import java.util.ArrayList;
import java.util.Arrays;
import java.util.HashSet;
import java.util.List;
import java.util.Set;
import java.util.TreeSet;
import java.util.regex.Pattern;

/** The public face is the document's and no more, and the source keeps to those rules that a text shows. */
public final class FaceTest {
    private static final String[] FACE = {
        "man(int,int,int)", "rule(int,int)", "of(int,int)", "at(int,int)", "wave(int,int)", "held(int)", "type(int)",
        "rim()", "count(int)", "nights(int)", "march(int,int)", "put(int,int)", "paint(int,int)", "drift(int)", "undo()",
        "seed(int)", "ahead(int,int,int)", "then(int)", "falls(int)", "alone()", "post(int,int,int)", "safe(int,int)",
        "change(int,int)", "coats(int,int,int)", "guard(int,int)", "calm(int)", "steam(int,int,int)", "image()",
        "restore()", "worn(int,int,int,int,int,int)", "film(int,int,int,int,int)", "sheet(int,int,int)", "drop(int)",
        "item(int,int,int,long)", "copy(int,int,int,int,int)"};
    private static final String[] CONSTANTS = {
        "BAD=-1", "NOT=-2", "FULL=-3", "NONE=-4", "NULL=-11", "CAST=-12", "INDEX=-13", "SIZE=-14"};
    private static final String OWN_THROWS = "(IllegalState|IllegalArgument|IndexOutOfBounds|Arithmetic|UnsupportedOperation"
        + "|NoSuchElement|Runtime)Exception";
    /** What the language leaves out, as far as a line shows it (an arrow is fine behind a case alone). */
    private static final String[] FORBIDDEN = {
        "^(?!\\s*(case|default)\\b).*->", "::", "Exact\\(", "\\b(finally|synchronized|assert|volatile|native)\\b",
        "\\bcatch \\((?!" + OWN_THROWS + "\\b)", "\\bthrow (?!new " + OWN_THROWS + "\\()", "\\btry \\(", "\\bObject\\b",
        "\\b(Hash|Tree|Linked)\\w+", "\\bRandom\\b", "\\bSystem\\.(?!arraycopy\\b)", "\\bThread\\b", "\\bstatic \\{", "^package ",
        "\\b(MAX|MIN)_VALUE\\b", "^import (?!java\\.util\\.(Arrays|ArrayList|List|Iterator|NoSuchElementException);)"};
    private static int wrong = 0;

    public static void main(String[] args) throws Exception {
        methodsAreTheDocuments();
        constantsAreTheDocuments();
        innerClassesHide();
        sourceKeepsToTheRules();
        System.out.println(wrong == 0 ? "the face is the document's" : wrong + " faults of the face");
        if (wrong != 0) {
            System.exit(1);
        }
    }

    private static void fault(String text) {
        wrong++;
        System.out.println(text);
    }

    private static boolean isPrivate(Member member) {
        return Modifier.isPrivate(member.getModifiers());
    }

    private static void methodsAreTheDocuments() {
        Set<String> found = new TreeSet<>();
        for (Method method : BathRim.class.getDeclaredMethods()) {
            if (isPrivate(method) || method.isSynthetic()) {
                continue;
            }
            List<String> types = new ArrayList<>();
            for (Class<?> type : method.getParameterTypes()) {
                types.add(type.getName());
            }
            found.add(method.getName() + "(" + String.join(",", types) + ")");
            if (!Modifier.isPublic(method.getModifiers()) || Modifier.isStatic(method.getModifiers())
                    || method.getReturnType() != int.class) {
                fault("not as in the document: " + method);
            }
        }
        if (!found.equals(new TreeSet<>(Arrays.asList(FACE)))) {
            fault("methods are " + found);
        }
        if (BathRim.class.getDeclaredConstructors().length != 1 || BathRim.class.getConstructors().length != 1) {
            fault("not one public constructor");
        }
        if (BathRim.class.getModifiers() != (Modifier.PUBLIC | Modifier.FINAL)) {
            fault("the class is not public and final");
        }
    }

    private static void constantsAreTheDocuments() throws IllegalAccessException {
        Set<String> found = new TreeSet<>();
        for (Field field : BathRim.class.getDeclaredFields()) {
            if (isPrivate(field)) {
                continue;
            }
            found.add(field.getName() + "=" + field.getInt(null));
            if (field.getModifiers() != (Modifier.PUBLIC | Modifier.STATIC | Modifier.FINAL)) {
                fault("not as in the document: " + field);
            }
        }
        if (!found.equals(new TreeSet<>(Arrays.asList(CONSTANTS)))) {
            fault("constants are " + found);
        }
    }

    private static void innerClassesHide() {
        Set<String> publicNames = new HashSet<>();
        for (String method : FACE) {
            publicNames.add(method.substring(0, method.indexOf('(')));
        }
        List<Class<?>> classes = new ArrayList<>(Arrays.asList(BathRim.class.getDeclaredClasses()));
        if (classes.size() > 12) {
            fault("more than twelve classes");
        }
        for (Class<?> inner : classes) {
            if (Modifier.isPublic(inner.getModifiers()) || Modifier.isProtected(inner.getModifiers())) {
                fault("neither private nor package-visible: " + inner);
            }
        }
        classes.add(BathRim.class);
        for (Class<?> any : classes) {
            for (Method method : any.getDeclaredMethods()) {
                boolean ofTheFace = any == BathRim.class && !isPrivate(method);
                if (!ofTheFace && publicNames.contains(method.getName())) {
                    fault("bears the name of a public one: " + method);
                }
                if (method.getParameterCount() > 7) {
                    fault("more than seven parameters: " + method);
                }
            }
            for (Field field : any.getDeclaredFields()) {
                if (Modifier.isStatic(field.getModifiers()) && !Modifier.isFinal(field.getModifiers())) {
                    fault("static and not final: " + field);
                }
            }
        }
    }

    private static void sourceKeepsToTheRules() throws Exception {
        for (String line : Files.readAllLines(Path.of("src/main/java/BathRim.java"))) {
            String code = line.replaceAll("//.*", "").replaceAll("^\\s*/?\\*.*", "");
            for (String word : FORBIDDEN) {
                if (Pattern.compile(word).matcher(code).find()) {
                    fault("outside the language (" + word + "): " + line);
                }
            }
            if (!line.chars().allMatch(c -> c >= 32 && c < 127)) {
                fault("a sign that is not plain: " + line);
            }
        }
    }
}
