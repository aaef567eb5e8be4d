import java.io.IOException;
import java.lang.reflect.Constructor;
import java.lang.reflect.Field;
import java.lang.reflect.Method;
import java.lang.reflect.Modifier;
import java.nio.charset.StandardCharsets;
import java.nio.file.Files;
import java.nio.file.Path;
import java.util.ArrayList;
import java.util.HashSet;
import java.util.List;
import java.util.Set;
import java.util.TreeSet;
import java.util.regex.Matcher;
import java.util.regex.Pattern;

/** What of ../shared/LANGUAGE.md can be seen from the class and its text; and the face, as ../shared/DOC.md has it. */
public final class LanguageTest {
    private static final Path SOURCE = Path.of("src/main/java/ClimbPermits.java");
    private static final Path DOCUMENT = Path.of("../shared/DOC.md");
    private static final String[] NOT_ALLOWED = {"\\bpackage\\b", "\\bimport\\b", "->", "::", "\\bcatch\\b", "\\bfinally\\b",
        "\\bsynchronized\\b", "\\bassert\\b", "\\bSystem\\b", "\\bThread\\b", "\\bprotected\\b", "\\bnative\\b", "\\bvar\\b",
        "\\bequals\\b", "\\bhashCode\\b", "\\btoString\\b", "\\bwhile\\s*\\(\\s*true", "\\bfor\\s*\\(\\s*;", "Exact\\b"};
    private static final Checks checks = new Checks();

    private LanguageTest() {
    }

    public static void main(String[] args) throws IOException {
        String source = Files.readString(SOURCE, StandardCharsets.UTF_8);
        List<Class<?>> classes = new ArrayList<>(List.of(ClimbPermits.class.getDeclaredClasses()));
        face(Files.readString(DOCUMENT, StandardCharsets.UTF_8));
        members();
        checks.holds("at most twelve classes", classes.size() < 12);
        for (Class<?> inside : classes) {
            checks.holds(inside + " is static and private", Modifier.isStatic(inside.getModifiers())
                    && Modifier.isPrivate(inside.getModifiers()));
            insideOf(inside);
        }
        insideOf(ClimbPermits.class);
        text(source);
        methodLengths(source);
        checks.close();
    }

    /** The public members are those of the document, and no others. */
    private static void face(String document) {
        String face = document.substring(document.indexOf("```java"), document.indexOf("## Terms"));
        Set<String> due = new TreeSet<>();
        Matcher methods = Pattern.compile("public (int \\w+)\\(([^)]*)\\);").matcher(face);
        while (methods.find()) {
            due.add(methods.group(1) + "(" + methods.group(2).replaceAll("(int|long) \\w+", "$1").replace(" ", "") + ")");
        }
        Matcher constants = Pattern.compile("(\\w+) = (-?\\d+)").matcher(face);
        while (constants.find()) {
            due.add(constants.group(1) + " = " + constants.group(2));
        }
        Set<String> there = new TreeSet<>();
        for (Method method : ClimbPermits.class.getDeclaredMethods()) {
            if (Modifier.isPublic(method.getModifiers())) {
                there.add(signature(method));
            }
        }
        for (Field field : ClimbPermits.class.getDeclaredFields()) {
            if (Modifier.isPublic(field.getModifiers())) {
                there.add(field.getName() + " = " + valueOf(field));
            }
        }
        checks.due("members of the face in the document", due.size(), 24 + 19);
        checks.holds("the face is " + there + ", due is " + due, due.equals(there));
        Constructor<?>[] constructors = ClimbPermits.class.getDeclaredConstructors();
        checks.holds("one public constructor without arguments", constructors.length == 1
                && constructors[0].getParameterCount() == 0 && Modifier.isPublic(constructors[0].getModifiers()));
        checks.holds("public and final", ClimbPermits.class.getModifiers() == (Modifier.PUBLIC | Modifier.FINAL));
    }

    private static String signature(Method method) {
        StringBuilder text = new StringBuilder(method.getReturnType() + " " + method.getName() + "(");
        for (Class<?> type : method.getParameterTypes()) {
            text.append(text.charAt(text.length() - 1) == '(' ? "" : ",").append(type);
        }
        return text.append(")").toString();
    }

    private static int valueOf(Field field) {
        try {
            return field.getInt(null);
        } catch (IllegalAccessException e) {
            throw new IllegalStateException(e);
        }
    }

    private static void members() {
        for (Method method : ClimbPermits.class.getDeclaredMethods()) {
            int modifiers = method.getModifiers();
            checks.holds(method + " is public or private", Modifier.isPublic(modifiers) || Modifier.isPrivate(modifiers));
        }
        for (Field field : ClimbPermits.class.getDeclaredFields()) {
            int modifiers = field.getModifiers();
            checks.holds(field + " is public or private", Modifier.isPublic(modifiers) || Modifier.isPrivate(modifiers));
        }
    }

    private static void insideOf(Class<?> type) {
        Set<String> face = new HashSet<>();
        for (Method method : ClimbPermits.class.getDeclaredMethods()) {
            if (Modifier.isPublic(method.getModifiers())) {
                face.add(method.getName());
            }
        }
        int own = 0;
        for (Field field : type.getDeclaredFields()) {
            if (Modifier.isStatic(field.getModifiers())) {
                checks.holds(field + " is final", Modifier.isFinal(field.getModifiers()));
            } else {
                own++;
            }
        }
        checks.holds(type + " has at most twenty fields", own <= 20);
        for (Method method : type.getDeclaredMethods()) {
            checks.holds(method + " takes at most seven parameters", method.getParameterCount() <= 7);
            checks.holds(method + " does not bear a name of the face",
                    Modifier.isPublic(method.getModifiers()) || !face.contains(method.getName()));
        }
    }

    private static void text(String source) {
        for (int i = 0; i < source.length(); i++) {
            char sign = source.charAt(i);
            checks.holds("sign " + (int) sign + " at " + i, sign == '\n' || sign >= 32 && sign < 127);
        }
        String code = source.replaceAll("(?s)/\\*.*?\\*/", "").replaceAll("//[^\n]*", "");
        for (String pattern : NOT_ALLOWED) {
            checks.holds("no " + pattern, !Pattern.compile(pattern).matcher(code).find());
        }
        checks.holds("no texts", code.indexOf('"') < 0);
    }

    private static void methodLengths(String source) {
        int start = -1;
        String[] lines = source.split("\n");
        for (int i = 0; i < lines.length; i++) {
            String bare = lines[i].trim();
            int indent = lines[i].length() - lines[i].stripLeading().length();
            if (bare.endsWith("{") && bare.contains("(") && (indent == 4 || indent == 8) && !bare.matches("(for|if|switch|while) .*")) {
                start = i;
            } else if (bare.equals("}") && start >= 0 && indent == lines[start].length() - lines[start].stripLeading().length()) {
                checks.holds(lines[start].trim() + " has at most sixty lines", i - start < 60);
                start = -1;
            }
        }
    }
}
