import java.lang.reflect.Constructor;
import java.lang.reflect.Field;
import java.lang.reflect.Method;
import java.lang.reflect.Modifier;
import java.util.Set;
import java.util.TreeSet;

/** The class shows the members of the face and no others, and no private method is named like one of them. */
public final class FaceTest {
    private static final Set<String> FACE = Set.of(
        "int places(int)", "boolean way(int,int)", "boolean drop(int,int)", "boolean reaches(int,int)",
        "int far(int,int)", "int circle()", "int group(int)", "int groups()", "int order(int)", "int level(int)",
        "int paths(int,int)", "int gate(int,int)", "boolean all(int,int,int)", "int count(int)");

    private static int wrong = 0;

    private static void must(boolean holds, String what) {
        if (!holds) {
            wrong++;
            System.out.println("not so: " + what);
        }
    }

    private static String written(Method m) {
        StringBuilder text = new StringBuilder(m.getReturnType().getName()).append(' ').append(m.getName()).append('(');
        for (int k = 0; k < m.getParameterCount(); k++) {
            text.append(k == 0 ? "" : ",").append(m.getParameterTypes()[k].getName());
        }
        return text.append(')').toString();
    }

    private static void methods() {
        Set<String> shown = new TreeSet<>();
        Set<String> names = new TreeSet<>();
        for (Method m : OrderBench.class.getDeclaredMethods()) {
            if (Modifier.isPublic(m.getModifiers())) {
                shown.add(written(m));
                names.add(m.getName());
                must(!Modifier.isStatic(m.getModifiers()), "no public method is static: " + m);
            }
        }
        must(shown.equals(new TreeSet<>(FACE)), "the public methods are the document's: " + shown);
        for (Method m : OrderBench.class.getDeclaredMethods()) {
            if (!Modifier.isPublic(m.getModifiers())) {
                must(Modifier.isPrivate(m.getModifiers()), "a method is public or private: " + m);
                must(!names.contains(m.getName()), "no private method has a public one's name: " + m);
            }
        }
    }

    public static void main(String[] args) {
        int modifiers = OrderBench.class.getModifiers();
        must(Modifier.isPublic(modifiers) && Modifier.isFinal(modifiers), "the class is public and final");
        must(OrderBench.class.getPackageName().isEmpty(), "there is no package");
        Constructor<?>[] constructors = OrderBench.class.getDeclaredConstructors();
        must(constructors.length == 1 && Modifier.isPublic(constructors[0].getModifiers())
            && constructors[0].getParameterCount() == 0, "there is one public constructor, without parameters");
        methods();
        for (Class<?> inside : OrderBench.class.getDeclaredClasses()) {
            must(!Modifier.isPublic(inside.getModifiers()) && !Modifier.isProtected(inside.getModifiers()),
                "a class inside is private or package-visible: " + inside);
        }
        for (Field f : OrderBench.class.getDeclaredFields()) {
            must(Modifier.isPrivate(f.getModifiers()), "a field is private: " + f);
            must(!Modifier.isStatic(f.getModifiers()) || Modifier.isFinal(f.getModifiers()),
                "a static field is final: " + f);
        }
        System.out.println("face: " + wrong + " wrong");
        if (wrong != 0) {
            System.exit(1);
        }
    }
}
