import java.lang.reflect.Constructor;
import java.lang.reflect.Field;
import java.lang.reflect.Method;
import java.lang.reflect.Modifier;
import java.util.Set;
import java.util.TreeSet;

/** The public face: just the members that the document shows, and nothing else that others can see. */
public final class FaceTest {
    private static final Set<String> FACE = Set.of(
        "public ResidueTransforms()",
        "public boolean ResidueTransforms.put(int,long)",
        "public long ResidueTransforms.get(int)",
        "public int ResidueTransforms.transform(int,int,boolean)",
        "public boolean ResidueTransforms.keep(int)",
        "public int ResidueTransforms.times(int,int)",
        "public long ResidueTransforms.root(int,int)");

    public static void main(String[] args) {
        Class<?> face = ResidueTransforms.class;
        Set<String> seen = new TreeSet<>();
        for (Constructor<?> c : face.getDeclaredConstructors()) {
            addUnlessPrivate(seen, c.getModifiers(), c.toString());
        }
        for (Method m : face.getDeclaredMethods()) {
            addUnlessPrivate(seen, m.getModifiers(), m.toString());
        }
        for (Field f : face.getDeclaredFields()) {
            addUnlessPrivate(seen, f.getModifiers(), f.toString());
        }
        Check check = new Check();
        check.due("members are those of the document, " + seen, seen.equals(FACE), true);
        check.due("class is public", Modifier.isPublic(face.getModifiers()), true);
        check.due("class is final", Modifier.isFinal(face.getModifiers()), true);
        check.end();
    }

    private static void addUnlessPrivate(Set<String> seen, int modifiers, String member) {
        if (!Modifier.isPrivate(modifiers)) {
            seen.add(member);
        }
    }
}
