import java.io.IOException;
import java.lang.reflect.Constructor;
import java.lang.reflect.Field;
import java.lang.reflect.Method;
import java.lang.reflect.Modifier;
import java.nio.file.Files;
import java.nio.file.Path;
import java.util.Arrays;
import java.util.List;
import java.util.Set;
import java.util.TreeSet;
import java.util.regex.Matcher;
import java.util.regex.Pattern;
import java.util.stream.Collectors;

/** The document's face, and the rules of LANGUAGE.md that can be seen in the class or in its text. */
public final class LanguageTest {
    private static final String FACE = """
        sheet int int int; set int int int; copy int int int int int; drop int; road int int int; far int int;
        bank int int int; house int int; hold int int int; falls int; week int; feed long int; books; fault;
        known int int int int; note int int int int int; told int int; looks int int int; worth int int int;
        hands int int int; trader int int int; pay int int int; bears int int; home int; cut int int;
        half int int int; rates int int int; way int int int int int int; kind int; as int int; ask int int;
        trace int; count int; status""";
    private static final List<String> LIBRARY = List.of("Math.max(", "Math.min(", "Integer.bitCount(", "System.arraycopy(");
    private static final Due due = new Due();

    public static void main(String[] args) throws IOException {
        face();
        membersOfTheFace();
        classesInside();
        text(Files.readString(Path.of("src/main/java/NoteCounter.java")));
        due.end();
    }

    private static String told(Method method) {
        String types = Arrays.stream(method.getParameterTypes()).map(Class::getName).collect(Collectors.joining(" "));
        return (method.getName() + " " + types).trim();
    }

    private static void face() {
        Set<String> want = new TreeSet<>(List.of(FACE.trim().replaceAll("\\s+", " ").split("; ?")));
        Set<String> got = new TreeSet<>();
        for (Method method : NoteCounter.class.getDeclaredMethods()) {
            if (Modifier.isPublic(method.getModifiers())) {
                got.add(told(method));
                due.holds(method + " answers an int", method.getReturnType() == int.class);
                due.holds(method + " is not static", !Modifier.isStatic(method.getModifiers()));
            }
        }
        due.holds("rule 1: the methods are " + want + ", not " + got, want.equals(got));
        due.is("rule 1: promises of methods", 34, got.size());
        due.holds("rule 1: final", Modifier.isFinal(NoteCounter.class.getModifiers()));
        Constructor<?>[] made = NoteCounter.class.getDeclaredConstructors();
        due.holds("rule 1: one constructor", made.length == 1 && made[0].getParameterCount() == 0);
        due.holds("rule 1: a public one", Modifier.isPublic(made[0].getModifiers()));
        due.is("NONE", -1000000, NoteCounter.NONE);
        due.is("BAD", -1000001, NoteCounter.BAD);
        due.is("STATE", -1000002, NoteCounter.STATE);
        due.is("FULL", -1000003, NoteCounter.FULL);
    }

    private static void membersOfTheFace() {
        Set<String> constants = Set.of("NONE", "BAD", "STATE", "FULL");
        for (Field field : NoteCounter.class.getDeclaredFields()) {
            boolean isConstant = constants.contains(field.getName());
            int how = field.getModifiers();
            due.holds("rule 1: " + field, isConstant ? Modifier.isPublic(how) : Modifier.isPrivate(how));
        }
        for (Method method : NoteCounter.class.getDeclaredMethods()) {
            int how = method.getModifiers();
            due.holds("rule 1: " + method, Modifier.isPublic(how) || Modifier.isPrivate(how));
        }
    }

    private static Set<String> facesNames() {
        return Arrays.stream(NoteCounter.class.getDeclaredMethods())
            .filter(method -> Modifier.isPublic(method.getModifiers())).map(Method::getName).collect(Collectors.toSet());
    }

    private static void classesInside() {
        List<Class<?>> all = new java.util.ArrayList<>(List.of(NoteCounter.class.getDeclaredClasses()));
        due.holds("rule 11: classes", all.size() + 1 <= 12);
        for (Class<?> inside : all) {
            int how = inside.getModifiers();
            due.holds("rule 1: " + inside, Modifier.isStatic(how) && !Modifier.isPublic(how) && !Modifier.isProtected(how));
            for (Method method : inside.getDeclaredMethods()) {
                due.holds("rule 1: " + method + " has a name of the face", !facesNames().contains(method.getName()));
            }
        }
        all.add(NoteCounter.class);
        for (Class<?> one : all) {
            long fields = Arrays.stream(one.getDeclaredFields()).filter(f -> !Modifier.isStatic(f.getModifiers())).count();
            due.holds("rule 11: fields of " + one, fields <= 20);
            for (Field field : one.getDeclaredFields()) {
                int how = field.getModifiers();
                due.holds("rule 5: " + field, !Modifier.isStatic(how) || Modifier.isFinal(how));
            }
            for (Method method : one.getDeclaredMethods()) {
                due.holds("rule 11: parameters of " + method, method.getParameterCount() <= 7);
                due.holds("rule 1: a private method with a name of the face: " + method,
                    !Modifier.isPrivate(method.getModifiers()) || !facesNames().contains(method.getName()));
            }
        }
    }

    private static void text(String whole) {
        due.holds("signs 1 to 127", whole.chars().allMatch(sign -> sign > 0 && sign < 128));
        String code = whole.replaceAll("(?s)/\\*.*?\\*/", "").replaceAll("//[^\n]*", "")
            .replaceAll("\"[^\"\n]*\"", "\"\"").replaceAll("'(\\\\.|[^'\\\\])'", "' '");
        String[] none = {"throw", "throws", "try", "catch", "finally", "synchronized", "assert", "import", "package",
            "var", "Object", "Thread", "equals", "hashCode", "toString", "Random", "volatile", "native", "Exception"};
        for (String word : none) {
            due.holds("rules 4 and 6: " + word, !Pattern.compile("\\b" + word + "\\b").matcher(code).find());
        }
        due.holds("rule 2: a lambda", !code.contains("->"));
        due.holds("rule 2: a method reference", !code.contains("::"));
        library(code);
        lengths(code);
    }

    private static void library(String code) {
        Matcher call = Pattern.compile("\\b(Math|Integer|Long|System|Arrays|String|StringBuilder|List|ArrayList)\\.\\w+\\(?").matcher(code);
        while (call.find()) {
            due.holds("rule 4: " + call.group(), LIBRARY.contains(call.group()));
        }
    }

    /** A method begins on a line with a parameter list and a brace; it ends where its indent closes. */
    private static void lengths(String code) {
        String[] lines = code.split("\n");
        Pattern begins = Pattern.compile("^( {4}| {8})(?! )[^=;]*\\) \\{$");
        for (int at = 0; at < lines.length; at++) {
            Matcher matcher = begins.matcher(lines[at]);
            if (matcher.find()) {
                int end = at;
                while (end < lines.length && !lines[end].equals(matcher.group(1) + "}")) {
                    end++;
                }
                due.holds("rule 11: lines of " + lines[at].trim(), end - at < 60);
            }
        }
    }
}
