import java.io.IOException;
import java.lang.reflect.Constructor;
import java.lang.reflect.Field;
import java.lang.reflect.Method;
import java.lang.reflect.Modifier;
import java.nio.file.Files;
import java.nio.file.Path;
import java.util.ArrayList;
import java.util.Collections;
import java.util.List;
import java.util.Set;
import java.util.TreeSet;
import java.util.regex.Matcher;
import java.util.regex.Pattern;

/** The public face of the document, and what of LANGUAGE.md can be seen from outside or from the text. */
public final class FaceTest {
    private static final String[] FACE = {
        "int addForm() S",
        "int addVersion(int) B S",
        "int addQuestion(int, int, int, int, int) B A S",
        "int addComputed(int, int, char, int, int) B A S N",
        "int setCondition(int, int, int, char, int) B A S N U",
        "int setMap(int, int, int, char, int) B A S N U",
        "int addLeg(int, int, int, int, int, int) B A S N",
        "int setKeeping(int, int, int, int, int) B A S N",
        "int publish(int) B S U",
        "int present(int) B N",
        "int owner(int) A N",
        "int setSubstitute(int, int) B A U",
        "int start(int, int) B S N",
        "int amend(int) B S",
        "int answer(int, int, int) B S U A",
        "int takeBack(int, int) B S U N",
        "int prefill(int) B S",
        "int submit(int) B S U",
        "int approve(int, int) B S N",
        "int sendBack(int, int, int) B A S N",
        "int reject(int, int) B S N",
        "char withdraw(int) B S",
        "char state(int) B",
        "boolean isAsked(int, int) B",
        "int value(int, int) B N",
        "int answers(int, int) B",
        "int stage(int) B S",
        "boolean waits(int, int) B",
        "int waitingAt(int, int) B N",
        "int carried(int, int) B N",
        "char reason(int, int) B S",
        "char root(int, int) B S",
        "int rootVersion(int, int) B S",
        "int causes(int, int) B S",
        "int record(int, int) B A N",
        "int recordAnew(int, int) B A N",
        "int source(int, int) B A N",
        "long total(int) A",
        "long totalAnew(int) A",
        "int counted(int) A",
        "boolean hold(int, boolean) B",
        "int lastDay(int) B S",
        "int pass(int) A",
        "int day()",
        "double meanValue(int) A R",
        "float acceptedShare() R",
        "boolean isSound(int) B",
    };

    public static void main(String[] args) throws IOException {
        face();
        members();
        text(Files.readString(Path.of("src/main/java/FormRiver.java")));
        Checks.end();
    }

    private static void face() {
        Set<String> got = new TreeSet<>();
        for (Method method : FormRiver.class.getDeclaredMethods()) {
            if (!Modifier.isPrivate(method.getModifiers())) {
                Checks.check(Modifier.isPublic(method.getModifiers()), "no other visible method", method.getName());
                got.add(told(method));
            }
        }
        Set<String> want = new TreeSet<>(List.of(FACE));
        Checks.check(want.equals(got), want.toString(), got.toString());
        Checks.is(1, FormRiver.class.getConstructors().length);
        Checks.is(Modifier.PUBLIC | Modifier.FINAL, FormRiver.class.getModifiers());
    }

    private static String told(Method method) {
        List<String> parameters = new ArrayList<>();
        for (Class<?> parameter : method.getParameterTypes()) {
            parameters.add(parameter.getSimpleName());
        }
        StringBuilder text = new StringBuilder(method.getReturnType().getSimpleName());
        text.append(' ').append(method.getName()).append('(').append(String.join(", ", parameters)).append(')');
        for (Class<?> exception : method.getExceptionTypes()) {
            text.append(' ').append(letter(exception));
        }
        return text.toString();
    }

    private static String letter(Class<?> exception) {
        return switch (exception.getSimpleName()) {
            case "IndexOutOfBoundsException" -> "B";
            case "IllegalArgumentException" -> "A";
            case "IllegalStateException" -> "S";
            case "NoSuchElementException" -> "N";
            case "UnsupportedOperationException" -> "U";
            case "ArithmeticException" -> "R";
            default -> exception.getName();
        };
    }

    /** The rules 1, 2, 5 and 11, as far as members tell. */
    private static void members() {
        Set<String> publicNames = new TreeSet<>();
        for (String line : FACE) {
            publicNames.add(line.substring(line.indexOf(' ') + 1, line.indexOf('(')));
        }
        List<Class<?>> classes = new ArrayList<>(List.of(FormRiver.class));
        Collections.addAll(classes, FormRiver.class.getDeclaredClasses());
        Checks.check(classes.size() <= 12, "12 classes at most", "" + classes.size());
        for (Class<?> one : classes) {
            int fields = 0;
            for (Field field : one.getDeclaredFields()) {
                boolean isStatic = Modifier.isStatic(field.getModifiers());
                fields += isStatic ? 0 : 1;
                Checks.check(!isStatic || Modifier.isFinal(field.getModifiers()), "no static state", "" + field);
                Checks.check(one != FormRiver.class || Modifier.isPrivate(field.getModifiers()), "private", "" + field);
            }
            Checks.check(fields <= 20, "20 fields at most", one + ": " + fields);
            for (Method method : one.getDeclaredMethods()) {
                Checks.check(method.getParameterCount() <= 7, "7 parameters at most", "" + method);
                Checks.check(Modifier.isPublic(method.getModifiers()) || !publicNames.contains(method.getName()),
                        "no name of the face", "" + method);
            }
            for (Constructor<?> constructor : one.getDeclaredConstructors()) {
                Checks.check(constructor.getParameterCount() <= 7, "7 parameters at most", "" + constructor);
            }
            Checks.check(one == FormRiver.class || Modifier.isStatic(one.getModifiers()), "static", "" + one);
        }
    }

    /** The rules 2, 3, 4, 6, 11 and 13, as far as the text tells. */
    private static void text(String source) {
        String code = source.replaceAll("(?s)/\\*.*?\\*/", "").replaceAll("//[^\n]*", "")
                .replaceAll("\"[^\"\n]*\"", "\"\"").replaceAll("'.'", "' '");
        String[] forbidden = {"->", "::", "\\btry\\b", "\\bcatch\\b", "\\bfinally\\b", "\\bsynchronized\\b",
            "\\bassert\\b", "\\bthread", "\\bstream", "\\bpackage\\b", "\\bprotected\\b", "static \\{", "\\bequals\\b",
            "\\bhashCode\\b", "\\btoString\\b", "Exact\\(", "\\bSystem\\.", "\\bMath\\.random", "\\bnull\\b", "@",
            "\\(Object|Object\\b", "\\bvar\\b", "\\bfor \\([^;]*:[^;]*\\)"};
        for (String word : forbidden) {
            Matcher matcher = Pattern.compile(word).matcher(code);
            boolean isFound = matcher.find();
            Checks.check(!isFound, "nothing like " + word, isFound ? "at " + matcher.start() : "");
        }
        Set<String> imports = new TreeSet<>();
        Matcher matcher = Pattern.compile("import ([^;]*);").matcher(code);
        while (matcher.find()) {
            imports.add(matcher.group(1));
        }
        Checks.check(imports.equals(Set.of("java.util.ArrayList", "java.util.NoSuchElementException")),
                "two imports", imports.toString());
        Matcher thrown = Pattern.compile("throw ([^;]*);").matcher(code);
        while (thrown.find()) {
            Checks.check(thrown.group(1).matches("new \\w+Exception\\(\"\"\\)"), "throw new E(..)", thrown.group());
        }
        Checks.check(source.chars().allMatch(c -> c == '\n' || c >= 32 && c < 127), "plain signs", "another one");
        methodLengths(code.split("\n"));
    }

    private static void methodLengths(String[] lines) {
        int begin = 0;
        for (int i = 0; i < lines.length; i++) {
            if (lines[i].matches("( {4}| {8})[\\w<>\\[\\]]+( [\\w<>\\[\\]]+)*\\(.*") && !lines[i].endsWith(";")) {
                begin = i;
            }
            if (lines[i].equals("    }") || lines[i].equals("        }")) {
                Checks.check(i - begin < 60, "short methods", "line " + i);
            }
        }
    }

    private FaceTest() {
    }
}
