import java.lang.reflect.Constructor;
import java.lang.reflect.Field;
import java.lang.reflect.Member;
import java.lang.reflect.Method;
import java.lang.reflect.Modifier;
import java.util.Arrays;
import java.util.Set;
import java.util.TreeSet;

/** The public face of the document and no other member that can be seen from outside (rule 1 of LANGUAGE.md). */
public final class FaceTest {
    private static final String[] FACE = {
        "public static final int BoxFlow.NONE",
        "public BoxFlow()",
        "public boolean BoxFlow.type(long,int)",
        "public int BoxFlow.compile() throws java.lang.IllegalArgumentException",
        "public int BoxFlow.fault()",
        "public boolean BoxFlow.begin(int,int,int)",
        "public boolean BoxFlow.settle(int,int,int)",
        "public int BoxFlow.step(int) throws java.lang.IllegalStateException,java.lang.ArithmeticException,"
            + "java.lang.IllegalArgumentException",
        "public int BoxFlow.state(int)",
        "public int BoxFlow.box(int,int,int) throws java.lang.IndexOutOfBoundsException",
        "public int BoxFlow.crossing(int,int) throws java.lang.IndexOutOfBoundsException",
        "public int BoxFlow.coefficient(int,int,boolean) throws java.lang.IndexOutOfBoundsException,"
            + "java.lang.ArithmeticException",
    };

    private static final Set<String> seen = new TreeSet<>();
    private static final Set<String> publicNames = new TreeSet<>();
    private static final Set<String> privateNames = new TreeSet<>();

    public static void main(String[] args) {
        Check check = new Check("FaceTest");
        for (Field f : BoxFlow.class.getDeclaredFields()) {
            note(f, f.toGenericString());
            boolean fixed = !Modifier.isStatic(f.getModifiers()) || Modifier.isFinal(f.getModifiers());
            check.due("a static field is final: " + f.getName(), fixed, true);
        }
        for (Constructor<?> c : BoxFlow.class.getDeclaredConstructors()) {
            note(c, c.toGenericString());
        }
        for (Method m : BoxFlow.class.getDeclaredMethods()) {
            note(m, m.toGenericString());
            (Modifier.isPrivate(m.getModifiers()) ? privateNames : publicNames).add(m.getName());
        }
        Set<String> want = new TreeSet<>(Arrays.asList(FACE));
        for (String member : want) {
            check.due("the face has " + member, seen.contains(member), true);
        }
        for (String member : seen) {
            check.due("the face may have " + member, want.contains(member), true);
        }
        for (String name : privateNames) {
            check.due("a private method bears a public name: " + name, publicNames.contains(name), false);
        }
        for (Class<?> inside : BoxFlow.class.getDeclaredClasses()) {
            int kind = inside.getModifiers();
            boolean hidden = Modifier.isStatic(kind) && !Modifier.isPublic(kind) && !Modifier.isProtected(kind);
            check.due("a class inside is static and can't be seen: " + inside.getName(), hidden, true);
        }
        check.due("the class is final", Modifier.isFinal(BoxFlow.class.getModifiers()), true);
        check.due("NONE", BoxFlow.NONE, -1);
        check.end();
    }

    private static void note(Member member, String text) {
        if (!Modifier.isPrivate(member.getModifiers()) && !member.isSynthetic()) {
            seen.add(text);
        }
    }
}
