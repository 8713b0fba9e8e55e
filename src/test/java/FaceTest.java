import java.lang.reflect.Constructor;
import java.lang.reflect.Field;
import java.lang.reflect.Member;
import java.lang.reflect.Method;
import java.lang.reflect.Modifier;
import java.util.Arrays;
import java.util.Set;
import java.util.TreeSet;

/** The class shows the document's face and no other member that is not private. */
public final class FaceTest {
    private static final Set<String> FACE = Set.of(
        "public static final int CardBook.NONE",
        "public CardBook()",
        "public int CardBook.space(int) throws java.lang.IllegalArgumentException",
        "public int CardBook.write(int) throws java.lang.IndexOutOfBoundsException",
        "public int CardBook.cover(int,int) throws java.lang.IndexOutOfBoundsException",
        "public boolean CardBook.clean(int,boolean) throws java.lang.IndexOutOfBoundsException",
        "public boolean CardBook.unsave(int) throws java.lang.IndexOutOfBoundsException",
        "public int CardBook.card(int) throws java.lang.IndexOutOfBoundsException",
        "public int CardBook.nextDirty(int) throws java.lang.IllegalArgumentException",
        "public int CardBook.nextSaved(int) throws java.lang.IllegalArgumentException",
        "public int CardBook.clear()",
        "public int CardBook.count(int) throws java.lang.IllegalArgumentException");

    public static void main(String[] args) {
        Checks checks = new Checks();
        Class<?> type = CardBook.class;
        checks.equal("the class", Modifier.toString(type.getModifiers()), "public final");
        checks.equal("the class above it", type.getSuperclass(), Object.class);
        checks.equal("its interfaces", type.getInterfaces().length, 0);
        checks.equal("NONE", CardBook.NONE, -1);
        Set<String> shown = new TreeSet<>();
        Arrays.stream(type.getDeclaredFields()).filter(FaceTest::isShown).map(Field::toString).forEach(shown::add);
        Arrays.stream(type.getDeclaredConstructors()).filter(FaceTest::isShown).map(Constructor::toString)
            .forEach(shown::add);
        Arrays.stream(type.getDeclaredMethods()).filter(FaceTest::isShown).map(Method::toString).forEach(shown::add);
        checks.equal("the face", shown, new TreeSet<>(FACE));
        checks.equal("private methods with a public name", sharedNames(type), Set.of());
        checks.equal("static fields that can change", changingStatics(type), Set.of());
        checks.end();
    }

    private static boolean isShown(Member member) {
        return !Modifier.isPrivate(member.getModifiers());
    }

    private static Set<String> sharedNames(Class<?> type) {
        Set<String> open = new TreeSet<>();
        Set<String> hidden = new TreeSet<>();
        for (Method m : type.getDeclaredMethods()) {
            (isShown(m) ? open : hidden).add(m.getName());
        }
        hidden.retainAll(open);
        return hidden;
    }

    /** State that all books share would make one book's answers depend on another's calls. */
    private static Set<String> changingStatics(Class<?> type) {
        Set<String> found = new TreeSet<>();
        for (Field f : type.getDeclaredFields()) {
            if (Modifier.isStatic(f.getModifiers()) && !Modifier.isFinal(f.getModifiers())) {
                found.add(f.getName());
            }
        }
        return found;
    }
}
