import java.io.IOException;
import java.lang.reflect.Field;
import java.lang.reflect.Method;
import java.lang.reflect.Modifier;
import java.nio.file.Files;
import java.nio.file.Path;
import java.util.Set;
import java.util.TreeSet;
import java.util.regex.Matcher;
import java.util.regex.Pattern;

/** The face is the document's and no more; the source has none of the words that LANGUAGE.md rules out. */
public final class FaceTest {
    private static final Due DUE = new Due();
    private static final String METHODS = "act/4 set/3 law/2 say/1 wipe/0 fault/0 leans/1 free/1 ask/3 counts/1 drop/0 "
            + "all/2 why/2 under/1 fall/4 back/4 wise/2 rest/2 heal/3 pillar/2 hangs/3 safe/1 beside/1 told/1";
    private static final String RULED_OUT = "throw|throws|try|catch|synchronized|assert|->|::|\\w+Exact|System\\.out|"
            + "java\\.util\\.(?!Arrays;)|Object|hashCode|Random|Thread|protected";

    public static void main(String[] args) throws IOException {
        constants();
        members();
        String source = Files.readString(Path.of(System.getProperty("fallwith.source", "src/main/java/FallWith.java")));
        words(source);
        DUE.close();
    }

    private static void constants() {
        DUE.is("UNKNOWN", FallWith.UNKNOWN, -1);
        DUE.is("OUTSIDE", FallWith.OUTSIDE, -2);
        DUE.is("STATE", FallWith.STATE, -3);
        DUE.is("FULL", FallWith.FULL, -4);
        DUE.is("NO", FallWith.NO, -5);
        DUE.is("NONE", FallWith.NONE, -6);
        DUE.is("LOST", FallWith.LOST, -1000000000);
    }

    private static void members() {
        DUE.holds("public and final", Modifier.isPublic(FallWith.class.getModifiers())
                && Modifier.isFinal(FallWith.class.getModifiers()));
        DUE.is("constructors", FallWith.class.getDeclaredConstructors().length, 1);
        Set<String> open = new TreeSet<>();
        Set<String> hidden = new TreeSet<>();
        for (Method method : FallWith.class.getDeclaredMethods()) {
            if (Modifier.isPrivate(method.getModifiers())) {
                hidden.add(method.getName());
            } else {
                open.add(method.getName() + "/" + method.getParameterCount());
                DUE.holds(method + " is public", Modifier.isPublic(method.getModifiers()));
                DUE.holds(method + " answers int", method.getReturnType() == int.class);
            }
        }
        DUE.holds("the methods are those of the document: " + open, open.equals(new TreeSet<>(Set.of(METHODS.split(" ")))));
        for (String call : METHODS.split(" ")) {
            String name = call.substring(0, call.indexOf('/'));
            DUE.holds("no private method is named " + name, !hidden.contains(name));
        }
        Set<String> names = new TreeSet<>();
        for (Field field : FallWith.class.getDeclaredFields()) {
            if (!Modifier.isPrivate(field.getModifiers())) {
                names.add(field.getName());
            }
            DUE.holds(field + " is final if static",
                    !Modifier.isStatic(field.getModifiers()) || Modifier.isFinal(field.getModifiers()));
        }
        DUE.holds("the constants are those of the document: " + names,
                names.equals(new TreeSet<>(Set.of("UNKNOWN", "OUTSIDE", "STATE", "FULL", "NO", "NONE", "LOST"))));
    }

    private static void words(String source) {
        String code = source.replaceAll("(?s)/\\*.*?\\*/", "").replaceAll("//[^\n]*", "");
        Matcher found = Pattern.compile("(?<!\\w)(" + RULED_OUT + ")(?!\\w)").matcher(code);
        while (found.find()) {
            DUE.holds("the source does without " + found.group(), false);
        }
        DUE.holds("no package", !code.contains("package "));
        DUE.holds("signs are 1 to 127", source.chars().allMatch(c -> c > 0 && c < 128));
    }
}
