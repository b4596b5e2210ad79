import java.lang.reflect.Constructor;
import java.lang.reflect.Field;
import java.lang.reflect.Method;
import java.lang.reflect.Modifier;
import java.util.Set;
import java.util.TreeSet;

/** The public face is the document's, and nothing else is to be seen of the class. */
final class FaceTest {
    private static final Set<String> FACE = Set.of(
        "int plate(int,int)", "int kerf(int)", "int part(int,int,int,boolean)", "int renew(int,int,int)",
        "int turn(int,boolean)", "int of(int,int)", "int defect(int,int)", "int mend()", "int feed(int)", "int read()",
        "int best(int,int,int,int)", "int is(int,int,int,int)", "int told(int)", "int node(int,int)",
        "int picture(int,int)", "int staged(int,int)", "int sizes(int)", "long more(int)", "long bound(int)",
        "int see(int,int)", "int fits(int,int)", "long odds(int,int)", "long mean(int)", "int event(int,int)",
        "int after(int)", "int book(int,int)", "int looked()", "int judge(int,int)", "int image()", "int undo()",
        "int count(int)", "int tape(int,int,int)", "int item(int,int,long)", "long peek(int,int)",
        "int shift(int,int,int,int,int)");

    private static final int CONSTANT = Modifier.PUBLIC | Modifier.STATIC | Modifier.FINAL;

    private static final Check CHECK = new Check("FaceTest");

    public static void main(String[] args) throws IllegalAccessException {
        face();
        constants();
        insides();
        CHECK.finish();
    }

    private static String signature(Method method) {
        StringBuilder all = new StringBuilder(method.getReturnType().getName());
        all.append(' ').append(method.getName()).append('(');
        for (int i = 0; i < method.getParameterCount(); i++) {
            all.append(i == 0 ? "" : ",").append(method.getParameterTypes()[i].getName());
        }
        return all.append(')').toString();
    }

    private static void face() {
        int modifiers = PlateCuts.class.getModifiers();
        CHECK.holds("the class is public and final", Modifier.isPublic(modifiers) && Modifier.isFinal(modifiers));
        CHECK.holds("it is in no package", PlateCuts.class.getPackageName().isEmpty());
        Set<String> shown = new TreeSet<>();
        Set<String> publicNames = new TreeSet<>();
        Set<String> privateNames = new TreeSet<>();
        for (Method method : PlateCuts.class.getDeclaredMethods()) {
            if (Modifier.isPrivate(method.getModifiers())) {
                privateNames.add(method.getName());
                continue;
            }
            shown.add(signature(method));
            publicNames.add(method.getName());
            CHECK.holds(method + " is public and no static one",
                Modifier.isPublic(method.getModifiers()) && !Modifier.isStatic(method.getModifiers()));
        }
        CHECK.holds("the methods are " + shown, shown.equals(new TreeSet<>(FACE)));
        privateNames.retainAll(publicNames);
        CHECK.holds("private methods with public names: " + privateNames, privateNames.isEmpty());
        Constructor<?>[] constructors = PlateCuts.class.getDeclaredConstructors();
        CHECK.holds("one public constructor without parameters", constructors.length == 1
            && Modifier.isPublic(constructors[0].getModifiers()) && constructors[0].getParameterCount() == 0);
    }

    private static void constants() throws IllegalAccessException {
        Set<String> shown = new TreeSet<>();
        for (Field field : PlateCuts.class.getDeclaredFields()) {
            if (Modifier.isPrivate(field.getModifiers())) {
                continue;
            }
            CHECK.holds(field + " is a public constant", field.getModifiers() == CONSTANT);
            shown.add(field.getType().getName() + " " + field.getName() + " = " + field.get(null));
        }
        CHECK.holds("the constants are " + shown, shown.equals(new TreeSet<>(Set.of("int NONE = -1", "int BAD = -2",
            "int STATE = -3", "int FULL = -4", "long NO = " + Long.MIN_VALUE))));
    }

    private static void insides() {
        for (Class<?> one : PlateCuts.class.getDeclaredClasses()) {
            CHECK.holds(one + " is static", Modifier.isStatic(one.getModifiers()));
            CHECK.holds(one + " is private", Modifier.isPrivate(one.getModifiers()));
            CHECK.holds(one + " has no classes", one.getDeclaredClasses().length == 0);
            for (Method method : one.getDeclaredMethods()) {
                CHECK.holds(method + " is written, not made", !method.isSynthetic());
                String called = " " + method.getName() + "(";
                CHECK.holds(method + " bears no public name", FACE.stream().noneMatch(call -> call.contains(called)));
            }
        }
    }
}
