import java.io.IOException;
import java.lang.reflect.Constructor;
import java.lang.reflect.Field;
import java.lang.reflect.Method;
import java.lang.reflect.Modifier;
import java.nio.file.Files;
import java.nio.file.Path;
import java.util.Arrays;
import java.util.Set;
import java.util.TreeSet;
import java.util.regex.Matcher;
import java.util.regex.Pattern;

/** The face is the document's, and the program keeps to LANGUAGE.md as far as a text search can tell. */
public final class LanguageTest {

    private static final String PROGRAM = "src/main/java/Circuitfold.java";
    private static final String DOCUMENT = "../shared/DOC.md";

    private static final String[] FORBIDDEN = {
        "->", "::", "\\bfinally\\b", "\\bcatch\\b", "\\bsynchronized\\b", "\\bassert\\b", "\\bprotected\\b",
        "\\bstatic\\s*\\{", "\\bExact\\b", "\\bMath\\.\\w+Exact\\b", "\\bSystem\\.(?!arraycopy)", "\\bRandom\\b",
        "\\bThread\\b", "\\bOptional\\b", "\\bstream\\b", "\\bMap\\b", "\\bBitSet\\b", "\\bString\\.format\\b",
        "\\bgetMessage\\b", "\\bhashCode\\b", "\\btoString\\b", "\\bwhile\\s*\\(true\\)", "\\bfor\\s*\\(;;\\)",
        "\\bextends\\s+\\w*Exception\\b", "\\bstatic\\s+final\\s+(byte|short|float|double)\\b",
        "\\[\\]\\[\\]\\[\\]", "\\brecord\\b", "\\bvar\\b",
    };

    private final Due due = new Due();

    public static void main(String[] args) throws IOException {
        new LanguageTest().all();
    }

    private void all() throws IOException {
        String source = Files.readString(Path.of(PROGRAM));
        face(Files.readString(Path.of(DOCUMENT)));
        names();
        words(source.replaceAll("(?s)/\\*.*?\\*/", "").replaceAll("//[^\n]*", "").replaceAll("\"[^\"\n]*\"", "\"\""));
        lengths(source);
        due.end("LanguageTest");
    }

    private static String told(Method method) {
        Set<String> thrown = new TreeSet<>();
        for (Class<?> type : method.getExceptionTypes()) {
            thrown.add(type.getSimpleName());
        }
        StringBuilder text = new StringBuilder(method.getReturnType().getName()).append(' ').append(method.getName());
        for (Class<?> type : method.getParameterTypes()) {
            text.append(' ').append(type.getName());
        }
        return text.append(' ').append(thrown).toString();
    }

    private void face(String document) {
        due.about("rule 1, the face");
        Set<String> wanted = new TreeSet<>();
        String face = document.substring(document.indexOf("public final class"), document.indexOf("## Terms"));
        Matcher line = Pattern.compile("public (\\w+) (\\w+)\\((.*?)\\)(?: throws (.*?))?;").matcher(face);
        while (line.find()) {
            StringBuilder text = new StringBuilder(line.group(1)).append(' ').append(line.group(2));
            for (String parameter : line.group(3).isEmpty() ? new String[0] : line.group(3).split(", ")) {
                text.append(' ').append(parameter.split(" ")[0]);
            }
            Set<String> thrown = new TreeSet<>();
            if (line.group(4) != null) {
                thrown.addAll(Arrays.asList(line.group(4).split(", ")));
            }
            wanted.add(text.append(' ').append(thrown).toString());
        }
        Set<String> got = new TreeSet<>();
        for (Method method : Circuitfold.class.getDeclaredMethods()) {
            if (!Modifier.isPrivate(method.getModifiers())) {
                due.is(Modifier.PUBLIC, method.getModifiers());
                got.add(told(method));
            }
        }
        due.is(45, wanted.size());
        due.is(wanted, got);
        due.is(Modifier.PUBLIC | Modifier.FINAL, Circuitfold.class.getModifiers());
        for (Constructor<?> constructor : Circuitfold.class.getDeclaredConstructors()) {
            due.is("public Circuitfold()", constructor.toString());
        }
        for (Field field : Circuitfold.class.getDeclaredFields()) {
            due.is(true, Modifier.isPrivate(field.getModifiers()));
        }
    }

    private void names() {
        due.about("rules 1 and 5, members");
        Set<String> open = new TreeSet<>();
        for (Method method : Circuitfold.class.getDeclaredMethods()) {
            if (Modifier.isPublic(method.getModifiers())) {
                open.add(method.getName());
            }
        }
        Class<?>[] inside = Circuitfold.class.getDeclaredClasses();
        due.is(true, inside.length <= 11);
        for (Class<?> type : inside) {
            due.is(true, Modifier.isStatic(type.getModifiers()) && !Modifier.isPublic(type.getModifiers()));
            for (Method method : type.getDeclaredMethods()) {
                due.is(type + " has no " + method.getName(),
                        type + (open.contains(method.getName()) ? " has " : " has no ") + method.getName());
                due.is(true, method.getParameterCount() <= 7);
            }
            for (Field field : type.getDeclaredFields()) {
                boolean isFree = !Modifier.isStatic(field.getModifiers()) || Modifier.isFinal(field.getModifiers());
                due.is(type + " " + field.getName() + " true", type + " " + field.getName() + " " + isFree);
            }
        }
    }

    private void words(String code) {
        due.about("rules 3 to 13, words");
        for (String word : FORBIDDEN) {
            Matcher matcher = Pattern.compile(word).matcher(code);
            due.is(word + " is not there", word + (matcher.find() ? " is there" : " is not there"));
        }
        Matcher imports = Pattern.compile("import ([\\w.]+);").matcher(code);
        while (imports.find()) {
            due.is(true, Set.of("java.util.Arrays", "java.util.NoSuchElementException").contains(imports.group(1)));
        }
        due.is(false, Pattern.compile("^package\\b", Pattern.MULTILINE).matcher(code).find());
    }

    private void lengths(String source) {
        due.about("rule 11, lengths");
        int start = -1;
        String[] lines = source.split("\n");
        for (int number = 0; number < lines.length; number++) {
            if (lines[number].matches(" {4}( {4})?[\\w\\[\\]<> ]+\\(.*") && !lines[number].trim().endsWith(";")) {
                start = number;
            }
            if (lines[number].matches(" {4}( {4})?\\}") && start >= 0) {
                due.is("line " + (start + 1) + ": short", "line " + (start + 1) + ": "
                        + (number - start <= 60 ? "short" : "long"));
                start = -1;
            }
            due.is("line " + (number + 1) + " fits",
                    "line " + (number + 1) + (lines[number].length() <= 120 ? " fits" : " is too wide"));
        }
    }
}
