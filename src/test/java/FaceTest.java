import java.io.IOException;
import java.lang.reflect.Constructor;
import java.lang.reflect.Field;
import java.lang.reflect.Method;
import java.lang.reflect.Modifier;
import java.nio.file.Files;
import java.nio.file.Path;
import java.util.List;
import java.util.Set;
import java.util.TreeSet;
import java.util.regex.Matcher;
import java.util.regex.Pattern;

/** The public face is the document's, and the source keeps to what can be seen of LANGUAGE.md in it. */
final class FaceTest {
    private static final Path SOURCE = Path.of("src/main/java/PlateCuts.java");
    private static final Set<String> FACE = Set.of(
        "int plate(int,int)", "int kerf(int)", "int part(int,int,int,boolean)", "int renew(int,int,int)",
        "int turn(int,boolean)", "int of(int,int)", "int defect(int,int)", "int mend()", "int feed(int)", "int read()",
        "int best(int,int,int,int)", "int is(int,int,int,int)", "int told(int)", "int node(int,int)",
        "int picture(int,int)", "int staged(int,int)", "int sizes(int)", "long more(int)", "long bound(int)",
        "int see(int,int)", "int fits(int,int)", "long odds(int,int)", "long mean(int)", "int event(int,int)",
        "int after(int)", "int book(int,int)", "int looked()", "int judge(int,int)", "int image()", "int undo()",
        "int count(int)", "int tape(int,int,int)", "int item(int,int,long)", "long peek(int,int)",
        "int shift(int,int,int,int,int)");
    private static final List<String> FORBIDDEN_WORDS = List.of("throw", "throws", "try", "catch", "finally",
        "synchronized", "assert", "volatile", "native", "protected", "package", "Object", "Exact", "Random", "Thread",
        "System\\.(?!arraycopy\\b)\\w+", "hashCode", "toString", "getClass", "Class", "HashMap", "Map");
    private static final int MOST_CLASSES = 12, MOST_FIELDS = 20, MOST_PARAMETERS = 7, MOST_LINES = 60;

    private static final Check CHECK = new Check("FaceTest");

    public static void main(String[] args) throws IOException {
        face();
        constants();
        insides();
        source(withoutComments(Files.readString(SOURCE)));
        CHECK.finish();
    }

    private static String signature(Method method) {
        StringBuilder all = new StringBuilder(method.getReturnType().getName());
        all.append(' ').append(method.getName()).append('(');
        for (int i = 0; i < method.getParameterCount(); i++) {
            all.append(i == 0 ? "" : ",").append(method.getParameterTypes()[i].getName());
        }
        return all.append(')').toString();
    }

    private static void face() {
        int modifiers = PlateCuts.class.getModifiers();
        CHECK.holds("the class is public and final", Modifier.isPublic(modifiers) && Modifier.isFinal(modifiers));
        CHECK.holds("it is in no package", PlateCuts.class.getPackageName().isEmpty());
        Set<String> shown = new TreeSet<>();
        Set<String> publicNames = new TreeSet<>();
        Set<String> privateNames = new TreeSet<>();
        for (Method method : PlateCuts.class.getDeclaredMethods()) {
            if (Modifier.isPrivate(method.getModifiers())) {
                privateNames.add(method.getName());
                continue;
            }
            shown.add(signature(method));
            publicNames.add(method.getName());
            CHECK.holds(method + " is public and no static one",
                Modifier.isPublic(method.getModifiers()) && !Modifier.isStatic(method.getModifiers()));
        }
        CHECK.holds("the methods are " + shown, shown.equals(new TreeSet<>(FACE)));
        privateNames.retainAll(publicNames);
        CHECK.holds("private methods with public names: " + privateNames, privateNames.isEmpty());
        Constructor<?>[] constructors = PlateCuts.class.getDeclaredConstructors();
        CHECK.holds("one public constructor without parameters", constructors.length == 1
            && Modifier.isPublic(constructors[0].getModifiers()) && constructors[0].getParameterCount() == 0);
    }

    private static void constants() {
        Set<String> shown = new TreeSet<>();
        for (Field field : PlateCuts.class.getDeclaredFields()) {
            if (!Modifier.isPrivate(field.getModifiers())) {
                shown.add(field.getType().getName() + " " + field.getName());
            }
        }
        CHECK.holds("the constants are " + shown,
            shown.equals(new TreeSet<>(Set.of("int NONE", "int BAD", "int STATE", "int FULL", "long NO"))));
    }

    private static void insides() {
        Class<?>[] inside = PlateCuts.class.getDeclaredClasses();
        CHECK.holds("classes inside: " + inside.length, inside.length < MOST_CLASSES);
        insidesOf(PlateCuts.class);
        for (Class<?> one : inside) {
            CHECK.holds(one + " is static", Modifier.isStatic(one.getModifiers()));
            CHECK.holds(one + " is private", Modifier.isPrivate(one.getModifiers()));
            CHECK.holds(one + " has no classes", one.getDeclaredClasses().length == 0);
            insidesOf(one);
        }
    }

    private static void insidesOf(Class<?> one) {
        int fields = 0;
        for (Field field : one.getDeclaredFields()) {
            if (Modifier.isStatic(field.getModifiers())) {
                CHECK.holds(field + " is final", Modifier.isFinal(field.getModifiers()));
            } else {
                fields++;
            }
        }
        CHECK.holds(one + " has " + fields + " fields", fields <= MOST_FIELDS);
        for (Method method : one.getDeclaredMethods()) {
            CHECK.holds(method + " has few parameters", method.getParameterCount() <= MOST_PARAMETERS);
            CHECK.holds(method + " is written, not made", !method.isSynthetic());
        }
    }

    private static String withoutComments(String source) {
        return source.replaceAll("(?s)/\\*.*?\\*/", "").replaceAll("//[^\n]*", "");
    }

    private static void source(String code) {
        for (String word : FORBIDDEN_WORDS) {
            Matcher found = Pattern.compile("\\b" + word + "\\b").matcher(code);
            CHECK.holds("the word " + word, !found.find());
        }
        CHECK.holds("no lambda, no method reference", !code.contains("->") && !code.contains("::"));
        CHECK.holds("no text", !code.contains("\""));
        CHECK.holds("one import", code.indexOf("import ") == code.lastIndexOf("import ")
            && code.contains("import java.util.Arrays;"));
        CHECK.holds("no loop without a condition", !code.contains("while (true)") && !code.contains("for (;;)"));
        Matcher body = Pattern.compile("(?m)^( {4}| {8})(\\w[^;={}]*\\)) \\{\n((?s:.*?))^\\1\\}").matcher(code);
        int methods = 0;
        while (body.find()) {
            methods++;
            long lines = body.group(3).lines().count();
            CHECK.holds(body.group(2) + " has " + lines + " lines", lines <= MOST_LINES);
        }
        CHECK.holds("methods were found: " + methods, methods > FACE.size());
    }
}
