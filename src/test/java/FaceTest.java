import java.lang.reflect.Constructor;
import java.lang.reflect.Field;
import java.lang.reflect.Member;
import java.lang.reflect.Method;
import java.lang.reflect.Modifier;
import java.util.Set;
import java.util.TreeSet;

/** The class shows the document's face and nothing else. */
public final class FaceTest {
    private static final Set<String> FACE = new TreeSet<>(Set.of(
            "public BlockDesk(int)",
            "public boolean BlockDesk.put(long,int)",
            "public boolean BlockDesk.fill(int,int)",
            "public int BlockDesk.record()",
            "public int BlockDesk.snapshot()",
            "public boolean BlockDesk.cut()",
            "public int BlockDesk.start()",
            "public boolean BlockDesk.charge(int)",
            "public int BlockDesk.size(int)",
            "public int BlockDesk.byteOf(int,int)",
            "public int BlockDesk.state(int)"));

    public static void main(String[] args) {
        int modifiers = BlockDesk.class.getModifiers();
        Due.is("the class is public and final",
                Modifier.isPublic(modifiers) && Modifier.isFinal(modifiers), true);
        Set<String> seen = new TreeSet<>();
        for (Constructor<?> constructor : BlockDesk.class.getDeclaredConstructors()) {
            addIfVisible(seen, constructor, constructor.toString());
        }
        for (Method method : BlockDesk.class.getDeclaredMethods()) {
            addIfVisible(seen, method, method.toString());
        }
        for (Field field : BlockDesk.class.getDeclaredFields()) {
            addIfVisible(seen, field, field.toString());
        }
        System.out.println(seen);
        Due.is("the face is the document's", seen.equals(FACE), true);
        noPrivateMethodBearsAPublicName();
        Due.end();
    }

    private static void addIfVisible(Set<String> seen, Member member, String text) {
        if (!Modifier.isPrivate(member.getModifiers()) && !member.isSynthetic()) {
            seen.add(text);
        }
    }

    private static void noPrivateMethodBearsAPublicName() {
        Set<String> publicNames = new TreeSet<>();
        for (Method method : BlockDesk.class.getDeclaredMethods()) {
            if (Modifier.isPublic(method.getModifiers())) {
                publicNames.add(method.getName());
            }
        }
        for (Method method : BlockDesk.class.getDeclaredMethods()) {
            if (Modifier.isPrivate(method.getModifiers()) && !method.isSynthetic()) {
                Due.is("private and public bear the name " + method.getName(),
                        publicNames.contains(method.getName()), false);
            }
        }
    }
}
