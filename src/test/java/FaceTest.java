import java.lang.reflect.Constructor;
import java.lang.reflect.Field;
import java.lang.reflect.Method;
import java.lang.reflect.Modifier;
import java.util.Set;
import java.util.TreeSet;

/** The public face: just the members that the document shows, and nothing else that others can see. */
public final class FaceTest {
    private static final Set<String> FACE = Set.of(
        "public ResidueTransforms()",
        "public boolean ResidueTransforms.put(int,long)",
        "public long ResidueTransforms.get(int)",
        "public int ResidueTransforms.transform(int,int,boolean)",
        "public boolean ResidueTransforms.keep(int)",
        "public int ResidueTransforms.times(int,int)",
        "public long ResidueTransforms.root(int,int)");

    public static void main(String[] args) {
        Class<?> face = ResidueTransforms.class;
        Set<String> seen = new TreeSet<>();
        for (Constructor<?> c : face.getDeclaredConstructors()) {
            addUnlessPrivate(seen, c.getModifiers(), c.toString());
        }
        for (Method m : face.getDeclaredMethods()) {
            addUnlessPrivate(seen, m.getModifiers(), m.toString());
        }
        for (Field f : face.getDeclaredFields()) {
            addUnlessPrivate(seen, f.getModifiers(), f.toString());
        }
        Check check = new Check();
        check.due("members are those of the document, " + seen, seen.equals(FACE), true);
        check.due("class is public", Modifier.isPublic(face.getModifiers()), true);
        check.due("class is final", Modifier.isFinal(face.getModifiers()), true);
        nothingIsInherited(check, face);
        nestedClassesAreHidden(check, face);
        privateMethodsHaveNamesOfTheirOwn(check, face);
        check.end();
    }

    /** What a class above it or an interface declares would be seen too, though the class does not declare it. */
    private static void nothingIsInherited(Check check, Class<?> face) {
        check.due("class above it is Object", face.getSuperclass() == Object.class, true);
        check.due("interfaces", face.getInterfaces().length, 0);
        check.due("type parameters", face.getTypeParameters().length, 0);
        check.due("package name's length", face.getPackageName().length(), 0);
    }

    private static void nestedClassesAreHidden(Check check, Class<?> face) {
        for (Class<?> nested : face.getDeclaredClasses()) {
            int modifiers = nested.getModifiers();
            boolean hidden = !Modifier.isPublic(modifiers) && !Modifier.isProtected(modifiers);
            check.due(nested + " is hidden", hidden, true);
            check.due(nested + " is static", Modifier.isStatic(modifiers), true);
        }
    }

    private static void privateMethodsHaveNamesOfTheirOwn(Check check, Class<?> face) {
        for (Method m : face.getDeclaredMethods()) {
            for (Method other : face.getDeclaredMethods()) {
                boolean mixed = m.getName().equals(other.getName())
                    && Modifier.isPrivate(m.getModifiers()) && !Modifier.isPrivate(other.getModifiers());
                check.due("private " + m.getName() + " bears a public name", mixed, false);
            }
        }
    }

    private static void addUnlessPrivate(Set<String> seen, int modifiers, String member) {
        if (!Modifier.isPrivate(modifiers)) {
            seen.add(member);
        }
    }
}
