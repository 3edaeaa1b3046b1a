import java.lang.reflect.Constructor;
import java.lang.reflect.Field;
import java.lang.reflect.Member;
import java.lang.reflect.Method;
import java.lang.reflect.Modifier;
import java.util.Set;
import java.util.TreeSet;

/** The class shows what the document's public face has, and nothing else. */
public final class FaceTests {
    private static final Set<String> FACE = Set.of(
            "public ArmExpander()",
            "public boolean ArmExpander.type(int,int)",
            "public int ArmExpander.define()",
            "public int ArmExpander.expand()",
            "public int ArmExpander.definitions()",
            "public int ArmExpander.arms(int)",
            "public int ArmExpander.token(int)",
            "public int ArmExpander.mark(int)",
            "public int ArmExpander.means(int)",
            "public int ArmExpander.expansions()",
            "public int ArmExpander.used(int)");

    private static int wrong = 0;

    public static void main(String[] args) {
        Class<?> program = ArmExpander.class;
        due("the class", Modifier.toString(program.getModifiers()), "public final");
        due("what it extends", program.getSuperclass().getName(), "java.lang.Object");
        due("what it implements", program.getInterfaces().length, 0);
        Set<String> shown = new TreeSet<>();
        for (Constructor<?> constructor : program.getDeclaredConstructors()) {
            addIfShown(shown, constructor, constructor.toString());
        }
        for (Method method : program.getDeclaredMethods()) {
            addIfShown(shown, method, method.toString());
        }
        for (Field field : program.getDeclaredFields()) {
            addIfShown(shown, field, field.toString());
        }
        due("what it shows", shown, new TreeSet<>(FACE));
        for (Class<?> inner : program.getDeclaredClasses()) {
            int modifiers = inner.getModifiers();
            due(inner + " is static", Modifier.isStatic(modifiers), true);
            due(inner + " is shown", Modifier.isPublic(modifiers) || Modifier.isProtected(modifiers), false);
        }
        System.out.println(wrong == 0 ? "the face is the document's" : wrong + " faults of the face");
        if (wrong != 0) {
            System.exit(1);
        }
    }

    private static void addIfShown(Set<String> shown, Member member, String words) {
        if (!Modifier.isPrivate(member.getModifiers()) && !member.isSynthetic()) {
            shown.add(words);
        }
    }

    private static void due(String what, Object got, Object want) {
        if (!got.equals(want)) {
            wrong++;
            System.out.println(what + ": " + got + ", due is " + want);
        }
    }
}
