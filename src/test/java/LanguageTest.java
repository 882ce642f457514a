import java.io.IOException;
import java.lang.reflect.Constructor;
import java.lang.reflect.Field;
import java.lang.reflect.Method;
import java.lang.reflect.Modifier;
import java.nio.file.Files;
import java.nio.file.Path;
import java.util.ArrayList;
import java.util.List;
import java.util.regex.Matcher;
import java.util.regex.Pattern;

/** The face of the class, and what can be seen of the rules of LANGUAGE.md in its text. */
public final class LanguageTest {
    private static final Path SOURCE = Path.of("src/main/java/StandAssigner.java");
    private static final Path DOCUMENT = Path.of("../shared/DOC.md");
    private static final String[] FORBIDDEN = {"->", "::", "\\bfinally\\b", "\\bcatch\\b", "\\btry\\b",
        "\\bsynchronized\\b", "\\bassert\\b", "\\bpackage\\b", "\\bhashCode\\b", "\\btoString\\b", "Exact\\b",
        "\\bprotected\\b", "\\bString\\.format\\b", "\\bSystem\\.(?!arraycopy)", "\\bMath\\.(?!max|min|abs)"};
    private static final Due due = new Due("LanguageTest");

    public static void main(String[] args) throws IOException {
        faceIsThatOfTheDocument();
        nothingElseIsVisible();
        callsAreAheadAsTold();
        textKeepsToTheRules();
        due.end();
    }

    /** Modifiers, return type, name, parameter types and declared exceptions in their order, of every public method. */
    private static void faceIsThatOfTheDocument() throws IOException {
        List<String> want = methodsOfTheDocument();
        List<String> got = new ArrayList<>();
        for (Method method : StandAssigner.class.getDeclaredMethods()) {
            if (Modifier.isPublic(method.getModifiers())) {
                got.add(method.toString().replace(" StandAssigner.", " "));
            }
        }
        due.is("number of methods", 37, want::size);
        due.is("number of public methods", want.size(), got::size);
        for (String method : want) {
            due.is("there is " + method, 1, () -> got.contains(method) ? 1 : 0);
        }
        for (String method : got) {
            due.is("the document has " + method, 1, () -> want.contains(method) ? 1 : 0);
        }
    }

    /** The methods of the document's face, each written as Method.toString writes it, but without the class. */
    private static List<String> methodsOfTheDocument() throws IOException {
        List<String> methods = new ArrayList<>();
        Matcher line = Pattern.compile("^    (public \\w+ \\w+)\\((.*?)\\)( throws .*)?;$", Pattern.MULTILINE)
            .matcher(Files.readString(DOCUMENT));
        while (line.find()) {
            String types = line.group(2).replaceAll("(\\w+) \\w+", "$1").replace(", ", ",");
            String exceptions = line.group(3) == null ? "" : line.group(3).replace(", ", ",")
                .replaceAll("(\\w+Exception)", "java.lang.$1")
                .replace("java.lang.NoSuchElementException", "java.util.NoSuchElementException");
            methods.add(line.group(1) + "(" + types + ")" + exceptions);
        }
        return methods;
    }

    private static void nothingElseIsVisible() {
        Class<?> face = StandAssigner.class;
        due.is("public", 1, () -> Modifier.isPublic(face.getModifiers()) ? 1 : 0);
        due.is("final", 1, () -> Modifier.isFinal(face.getModifiers()) ? 1 : 0);
        Constructor<?>[] constructors = face.getDeclaredConstructors();
        due.is("constructors", 1, () -> constructors.length);
        due.is("its parameters", 0, () -> constructors[0].getParameterCount());
        due.is("its exceptions", 0, () -> constructors[0].getExceptionTypes().length);
        due.is("it is public", 1, () -> Modifier.isPublic(constructors[0].getModifiers()) ? 1 : 0);
        List<String> names = new ArrayList<>();
        for (Method method : face.getDeclaredMethods()) {
            if (Modifier.isPublic(method.getModifiers())) {
                names.add(method.getName());
            }
        }
        for (Method method : face.getDeclaredMethods()) {
            if (!Modifier.isPublic(method.getModifiers()) && !method.isSynthetic()) {
                due.is(method.getName() + " is private", 1, () -> Modifier.isPrivate(method.getModifiers()) ? 1 : 0);
                due.is(method.getName() + " is no name of the face", 0, () -> names.contains(method.getName()) ? 1 : 0);
            }
        }
        for (Field field : face.getDeclaredFields()) {
            due.is(field.getName() + " is private", 1, () -> Modifier.isPrivate(field.getModifiers()) ? 1 : 0);
        }
        for (Class<?> inside : face.getDeclaredClasses()) {
            due.is(inside.getName() + " is static", 1, () -> Modifier.isStatic(inside.getModifiers()) ? 1 : 0);
            for (Method method : inside.getDeclaredMethods()) {
                due.is(inside.getName() + "." + method.getName() + " is no name of the face", 0,
                    () -> names.contains(method.getName()) ? 1 : 0);
            }
        }
    }

    /** The comments that the document puts ahead of its calls, and these calls in its order behind each. */
    private static void callsAreAheadAsTold() throws IOException {
        String face = Files.readString(SOURCE).replaceAll("(?s)\n    private static final class .*", "");
        int told = 0;
        for (String sentence : Sentences.ofDocument()) {
            Matcher ahead = Pattern.compile("Ahead of the calls (.*) the interface says: (---- .*)\\.")
                .matcher(sentence);
            if (!ahead.find()) {
                continue;
            }
            told++;
            List<String> calls = new ArrayList<>();
            String[] parts = face.split(Pattern.quote("// " + ahead.group(2) + "\n"));
            due.is("comments " + ahead.group(2), 2, () -> parts.length);
            Matcher call = Pattern.compile("(?m)^    public \\w+ (\\w+)\\(")
                .matcher(parts[parts.length - 1].replaceAll("(?s)\n    // ----.*", ""));
            while (call.find()) {
                calls.add("`" + call.group(1) + "`");
            }
            due.same("behind " + ahead.group(2), ahead.group(1), String.join(", ", calls));
        }
        int comments = told;
        due.is("comments ahead of calls", 5, () -> comments);
    }

    private static void textKeepsToTheRules() throws IOException {
        String source = Files.readString(SOURCE);
        String code = source.replaceAll("(?s)/\\*.*?\\*/", "").replaceAll("//[^\n]*", "")
            .replaceAll("\"[^\"]*\"", "\"\"");
        for (String forbidden : FORBIDDEN) {
            due.is("uses of " + forbidden, 0, () -> Pattern.compile(forbidden).matcher(code).results().count());
        }
        due.is("signs beyond 127", 0, () -> source.chars().filter(sign -> sign > 127).count());
        due.is("imports beside Arrays and NoSuchElementException", 0, () -> Pattern
            .compile("(?m)^import (?!java\\.util\\.(Arrays|NoSuchElementException);)").matcher(code).results().count());
        due.is("static fields that are not final", 0, () -> Pattern
            .compile("(?m)^\\s*(private |public )?static (?!final)[^(]*;").matcher(code).results().count());
    }
}
