import java.io.IOException;
import java.lang.reflect.Constructor;
import java.lang.reflect.Field;
import java.lang.reflect.Method;
import java.lang.reflect.Modifier;
import java.nio.file.Files;
import java.nio.file.Path;
import java.util.Set;
import java.util.TreeSet;
import java.util.regex.Matcher;
import java.util.regex.Pattern;

/** The face is the document's, line by line, and no more; the source keeps to what LANGUAGE.md leaves. */
public final class FaceTest {
    private static final Due DUE = new Due();
    private static final String RULED_OUT = "throw|throws|try|catch|synchronized|assert|->|::|\\w+Exact|System\\.out|"
            + "java\\.util\\.(?!Arrays;)|Object|hashCode|Random|Thread|protected";
    private static final int MOST_PARAMETERS = 7, MOST_LINES = 60, MOST_CLASSES = 12, MOST_FIELDS = 20;

    public static void main(String[] args) throws IOException {
        String document = Files.readString(Path.of(System.getProperty("fallwith.document", "../shared/DOC.md")));
        String source = Files.readString(Path.of(System.getProperty("fallwith.source", "src/main/java/FallWith.java")));
        String face = document.substring(document.indexOf("```java") + 7, document.indexOf("```", document.indexOf("```java") + 7));
        shape();
        constants(face);
        methods(face, source);
        classesInside();
        words(source);
        lengths(source);
        DUE.close();
    }

    private static void shape() {
        int modifiers = FallWith.class.getModifiers();
        DUE.holds("public and final", Modifier.isPublic(modifiers) && Modifier.isFinal(modifiers));
        DUE.holds("without a package", FallWith.class.getPackageName().isEmpty());
        Constructor<?>[] made = FallWith.class.getDeclaredConstructors();
        DUE.is("constructors", made.length, 1);
        DUE.holds("made in public from nothing", Modifier.isPublic(made[0].getModifiers()) && made[0].getParameterCount() == 0);
    }

    private static void constants(String face) {
        Set<String> named = new TreeSet<>();
        Matcher told = Pattern.compile("(\\w+) = (-?\\d+)").matcher(face);
        while (told.find()) {
            named.add(told.group(1));
            constant(told.group(1), Integer.parseInt(told.group(2)));
        }
        DUE.is("constants that the document names", named.size(), 7);
        Set<String> open = new TreeSet<>();
        for (Field field : FallWith.class.getDeclaredFields()) {
            int modifiers = field.getModifiers();
            if (!Modifier.isPrivate(modifiers)) {
                open.add(field.getName());
            }
            DUE.holds(field + " is final if static", !Modifier.isStatic(modifiers) || Modifier.isFinal(modifiers));
        }
        DUE.holds("the constants are those of the document: " + open, open.equals(named));
    }

    private static void constant(String name, int value) {
        try {
            Field field = FallWith.class.getField(name);
            DUE.is(name, field.getInt(null), value);
            DUE.holds(name + " is an int that is final", field.getType() == int.class && Modifier.isFinal(field.getModifiers()));
        } catch (ReflectiveOperationException missing) {
            DUE.holds("there is a constant " + name, false);
        }
    }

    private static void methods(String face, String source) {
        Set<String> named = new TreeSet<>();
        Matcher told = Pattern.compile("public int (\\w+)\\(([^)]*)\\);").matcher(face);
        while (told.find()) {
            named.add(told.group(1));
            String line = told.group().replace(";", " {");
            DUE.holds("the source has the document's line: " + line, source.contains("\n    " + line + "\n"));
        }
        DUE.is("methods that the document names", named.size(), 24);
        Set<String> open = new TreeSet<>();
        for (Method method : FallWith.class.getDeclaredMethods()) {
            if (Modifier.isPrivate(method.getModifiers())) {
                DUE.holds("no private method is named " + method.getName(), !named.contains(method.getName()));
            } else {
                DUE.holds(method + " is there once", open.add(method.getName()));
                DUE.holds(method + " is as told", method.toString().matches("public int FallWith\\.\\w+\\((int(,int)*)?\\)"));
            }
        }
        DUE.holds("the methods are those of the document: " + open, open.equals(named));
    }

    private static void classesInside() {
        Set<String> open = new TreeSet<>();
        for (Method method : FallWith.class.getMethods()) {
            open.add(method.getName());
        }
        Class<?>[] inside = FallWith.class.getDeclaredClasses();
        DUE.holds("few classes: " + inside.length, inside.length < MOST_CLASSES);
        for (Class<?> one : inside) {
            int modifiers = one.getModifiers();
            DUE.holds(one + " is static and hidden", Modifier.isStatic(modifiers) && !Modifier.isPublic(modifiers) && !Modifier.isProtected(modifiers));
            DUE.holds(one + " has few fields", one.getDeclaredFields().length <= MOST_FIELDS);
            for (Method method : one.getDeclaredMethods()) {
                DUE.holds(method + " has a name of its own", !open.contains(method.getName()));
                DUE.holds(method + " has few parameters", method.getParameterCount() <= MOST_PARAMETERS);
            }
        }
    }

    private static void words(String source) {
        String code = source.replaceAll("(?s)/\\*.*?\\*/", "").replaceAll("//[^\n]*", "");
        Matcher found = Pattern.compile("(?<!\\w)(" + RULED_OUT + ")(?!\\w)").matcher(code);
        while (found.find()) {
            DUE.holds("the source does without " + found.group(), false);
        }
        DUE.holds("no package", !code.contains("package "));
        DUE.holds("signs are 1 to 127", source.chars().allMatch(c -> c > 0 && c < 128));
    }

    /** A method begins at four or eight blanks and ends with a brace at as many. */
    private static void lengths(String source) {
        String[] lines = source.split("\n");
        int methods = 0;
        for (int from = 0; from < lines.length; from++) {
            Matcher begin = Pattern.compile("^(    |        )(\\w+ )+\\w+\\([^)]*\\) \\{$").matcher(lines[from]);
            if (!begin.matches() || lines[from].contains("else if")) {
                continue;
            }
            methods++;
            int till = from;
            while (till < lines.length && !lines[till].equals(begin.group(1) + "}")) {
                till++;
            }
            DUE.holds(lines[from].trim() + " is short", till - from <= MOST_LINES);
        }
        DUE.holds("methods were found: " + methods, methods > 24);
    }
}
