import java.io.IOException;
import java.lang.reflect.Constructor;
import java.lang.reflect.Field;
import java.lang.reflect.Method;
import java.lang.reflect.Modifier;
import java.nio.file.Files;
import java.nio.file.Path;
import java.util.ArrayList;
import java.util.HashSet;
import java.util.List;
import java.util.Set;
import java.util.TreeSet;
import java.util.regex.Matcher;
import java.util.regex.Pattern;

/** 'The public face', and those rules of the language that can be seen from the class and its words. */
public final class FaceTest {
    private static final Checks CHECKS = new Checks();
    private static final String INDEX = "IndexOutOfBoundsException";
    private static final String ARGUMENT = "IllegalArgumentException";
    private static final String REFUSED = "UnsupportedOperationException";
    private static final String NO_ELEMENT = "NoSuchElementException";
    private static final String STATE = "IllegalStateException";
    private static final String ARITHMETIC = "ArithmeticException";
    private static final Path SOURCE = Path.of("src/main/java/SugarTowers.java");

    public static void main(String[] args) throws IOException {
        classItself();
        methodsOfTheFace();
        nothingElseIsSeen();
        fields();
        methods();
        words();
        CHECKS.end();
    }

    private static void classItself() {
        int kind = SugarTowers.class.getModifiers();
        CHECKS.due("public and final", Modifier.PUBLIC | Modifier.FINAL, () -> kind);
        CHECKS.due("without a package", "", () -> SugarTowers.class.getPackageName());
        CHECKS.due("of no other class", Object.class, () -> SugarTowers.class.getSuperclass());
        CHECKS.due("of no interface", 0, () -> SugarTowers.class.getInterfaces().length);
        Constructor<?>[] made = SugarTowers.class.getDeclaredConstructors();
        CHECKS.due("one constructor", 1, () -> made.length);
        CHECKS.due("it is public", Modifier.PUBLIC, () -> made[0].getModifiers());
        CHECKS.due("without parameters", 0, () -> made[0].getParameterCount());
        CHECKS.due("without exceptions", 0, () -> made[0].getExceptionTypes().length);
    }

    private static final String[] FACE = {
        face("int humidity(int,int)", INDEX, ARGUMENT),
        face("int humidityIn(int)", ARGUMENT),
        face("int buy(int,int)", ARGUMENT, REFUSED),
        face("int stock(int)", ARGUMENT),
        face("int tongs(int)", ARGUMENT, REFUSED),
        face("int tongsOf(int,int)", INDEX, ARGUMENT),
        face("int tongsFor(int)", ARGUMENT, NO_ELEMENT),
        face("int tower()", REFUSED),
        face("int lay(int,int,int,int)", INDEX, ARGUMENT, REFUSED),
        face("int why(int,int,int,int)", INDEX, ARGUMENT),
        face("int take(int)", INDEX, REFUSED),
        face("int courseOf(int,int,int)", INDEX, ARGUMENT),
        face("int bearsAgain(int,int)", INDEX),
        face("int towerOf(int,int)", INDEX, ARGUMENT),
        face("int spare(int)", INDEX),
        face("char sign(int)", INDEX),
        face("boolean stands(int,int)", INDEX, ARGUMENT),
        face("int breaksIn(int)", INDEX, NO_ELEMENT),
        face("int banquet(int,int,int)", ARGUMENT, REFUSED),
        face("int show(int,int)", NO_ELEMENT, INDEX),
        face("int cancel(int)", NO_ELEMENT),
        face("int banquetOf(int,int)", NO_ELEMENT, ARGUMENT),
        face("int next()", NO_ELEMENT),
        face("int pass(int)", ARGUMENT),
        face("int append(char)", STATE),
        face("int read()", ARGUMENT, REFUSED),
        face("int errorPosition()"),
        face("int refusal(boolean)", NO_ELEMENT),
        face("int account(int)", ARGUMENT),
        face("boolean isWell()"),
        face("double meanDampness()", ARITHMETIC),
        face("float broken()", ARITHMETIC),
        face("int undo()", STATE),
        face("int save()"),
        face("int restore()", STATE),
    };

    private static String face(String call, String... exceptions) {
        return call + " " + String.join(",", exceptions);
    }

    private static String faceOf(Method method) {
        List<String> parameters = new ArrayList<>();
        for (Class<?> each : method.getParameterTypes()) {
            parameters.add(each.getSimpleName());
        }
        List<String> exceptions = new ArrayList<>();
        for (Class<?> each : method.getExceptionTypes()) {
            exceptions.add(each.getSimpleName());
        }
        return face(method.getReturnType().getSimpleName() + " " + method.getName() + "("
                + String.join(",", parameters) + ")", exceptions.toArray(new String[0]));
    }

    /** Each method of the face, public and not static, with its parameters, its answer and its exceptions in order. */
    private static void methodsOfTheFace() {
        Set<String> found = new TreeSet<>();
        for (Method each : SugarTowers.class.getDeclaredMethods()) {
            if (each.getModifiers() == Modifier.PUBLIC) {
                found.add(faceOf(each));
            }
        }
        CHECKS.due("the face", new TreeSet<>(List.of(FACE)), () -> found);
    }

    /** Rule 1: no other member that is not private; no private method bears the name of a public one. */
    private static void nothingElseIsSeen() {
        Set<String> names = new HashSet<>();
        for (Method each : SugarTowers.class.getDeclaredMethods()) {
            boolean isPublic = Modifier.isPublic(each.getModifiers());
            boolean isPrivate = Modifier.isPrivate(each.getModifiers());
            CHECKS.due("public or private: " + each, true, () -> isPublic != isPrivate);
            if (isPublic) {
                names.add(each.getName());
            }
        }
        for (Method each : SugarTowers.class.getDeclaredMethods()) {
            if (Modifier.isPrivate(each.getModifiers())) {
                CHECKS.due("a name of its own: " + each, false, () -> names.contains(each.getName()));
            }
        }
        for (Field each : SugarTowers.class.getDeclaredFields()) {
            CHECKS.due("private: " + each, true, () -> Modifier.isPrivate(each.getModifiers()));
        }
        Class<?>[] inside = SugarTowers.class.getDeclaredClasses();
        for (Class<?> each : inside) {
            CHECKS.due("static: " + each, true, () -> Modifier.isStatic(each.getModifiers()));
            CHECKS.due("not public: " + each, false, () -> Modifier.isPublic(each.getModifiers()));
        }
        CHECKS.due("twelve classes at most", true, () -> inside.length < 12);
    }

    private static List<Class<?>> allClasses() {
        List<Class<?>> all = new ArrayList<>(List.of(SugarTowers.class.getDeclaredClasses()));
        all.add(SugarTowers.class);
        return all;
    }

    /** Rules 5 and 11: static fields are constants; a class has some twenty others. */
    private static void fields() {
        for (Class<?> each : allClasses()) {
            int others = 0;
            for (Field field : each.getDeclaredFields()) {
                if (Modifier.isStatic(field.getModifiers())) {
                    CHECKS.due("final: " + field, true, () -> Modifier.isFinal(field.getModifiers()));
                } else {
                    others++;
                }
            }
            int count = others;
            CHECKS.due("twenty fields at most: " + each, true, () -> count <= 20);
        }
    }

    /** Rules 6 and 11: seven parameters at most; no equals, hashCode and toString. */
    private static void methods() {
        Set<String> ruledOut = Set.of("equals", "hashCode", "toString", "finalize", "clone");
        for (Class<?> each : allClasses()) {
            for (Method method : each.getDeclaredMethods()) {
                CHECKS.due("seven parameters at most: " + method, true, () -> method.getParameterCount() <= 7);
                CHECKS.due("not ruled out: " + method, false, () -> ruledOut.contains(method.getName()));
            }
        }
    }

    private static int found(String pattern, String text) {
        Matcher matcher = Pattern.compile(pattern).matcher(text);
        int count = 0;
        while (matcher.find()) {
            count++;
        }
        return count;
    }

    /** Rules 2, 4 and 6, and that no call is answered by catching what the machine throws. */
    private static void words() throws IOException {
        String whole = Files.readString(SOURCE);
        String code = whole.replaceAll("(?s)/\\*.*?\\*/", "").replaceAll("//[^\n]*", "");
        CHECKS.due("one import", 1, () -> found("\\bimport\\b", code));
        CHECKS.due("it is of the document", 1, () -> found("import java\\.util\\.NoSuchElementException;", code));
        String[] ruledOut = {"->", "::", "\\bcatch\\b", "\\btry\\b", "\\bfinally\\b", "\\bsynchronized\\b",
            "\\bassert\\b", "\\bpackage\\b", "\\bvar\\b", "\\bSystem\\.(?!arraycopy)", "\\bMath\\.\\w+Exact\\b", "\\bstatic \\{",
            "\\bprotected\\b", "\\bThread\\b", "\\brandom", "\\bextends\\b", "\\bStrictMath\\b"};
        for (String each : ruledOut) {
            CHECKS.due("not in the file: " + each, 0, () -> found(each, code));
        }
        CHECKS.due("each throw makes its exception", found("\\bthrow\\b", code),
                () -> found("\\bthrow new (IllegalState|IllegalArgument|IndexOutOfBounds|Arithmetic"
                        + "|UnsupportedOperation|NoSuchElement)Exception\\(\"[^\"]*\"\\);", code));
        CHECKS.due("signs from 1 to 127 alone", true, () -> whole.chars().allMatch(c -> c >= 1 && c <= 127));
    }
}
