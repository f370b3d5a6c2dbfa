import java.lang.reflect.Constructor;
import java.lang.reflect.Field;
import java.lang.reflect.Method;
import java.lang.reflect.Modifier;
import java.util.Set;
import java.util.TreeSet;

/**
 * The class has the public face of the document, and no other member that is not private; what is behind the face
 * keeps to those rules of LANGUAGE.md that can be seen from outside.
 */
public final class DrillHeadsFace {
    private static final String STATE = " throws java.lang.IllegalStateException";
    private static final String INDEX = "java.lang.IndexOutOfBoundsException";
    private static final String ARGUMENT = "java.lang.IllegalArgumentException";

    public static void main(String[] args) {
        Due.yes("the class is public", Modifier.isPublic(DrillHeads.class.getModifiers()));
        Due.yes("the class is final", Modifier.isFinal(DrillHeads.class.getModifiers()));
        Due.compare("the face", String.join("\n", due()), String.join("\n", found()));
        classesInsideAreHidden();
        noPrivateMethodHasAPublicName();
        staticFieldsAreFinal(DrillHeads.class);
        Due.end();
    }

    /** LANGUAGE.md, rule 1: "the classes inside it, which are private or package-visible and static" */
    private static void classesInsideAreHidden() {
        for (Class<?> c : DrillHeads.class.getDeclaredClasses()) {
            int modifiers = c.getModifiers();
            Due.no(c + " can be seen outside", Modifier.isPublic(modifiers) || Modifier.isProtected(modifiers));
            Due.yes(c + " is static", Modifier.isStatic(modifiers));
            staticFieldsAreFinal(c);
        }
    }

    /** LANGUAGE.md, rule 1: "No private method bears the name of a public one." */
    private static void noPrivateMethodHasAPublicName() {
        Set<String> names = new TreeSet<>();
        for (Method m : DrillHeads.class.getDeclaredMethods()) {
            if (Modifier.isPublic(m.getModifiers())) {
                names.add(m.getName());
            }
        }
        privateNamesDiffer(DrillHeads.class, names);
        for (Class<?> c : DrillHeads.class.getDeclaredClasses()) {
            privateNamesDiffer(c, names);
        }
    }

    private static void privateNamesDiffer(Class<?> c, Set<String> names) {
        for (Method m : c.getDeclaredMethods()) {
            if (Modifier.isPrivate(m.getModifiers())) {
                Due.no(m + " has a public one's name", names.contains(m.getName()));
            }
        }
    }

    /** LANGUAGE.md, rule 5: "Static fields are final" */
    private static void staticFieldsAreFinal(Class<?> c) {
        for (Field f : c.getDeclaredFields()) {
            if (Modifier.isStatic(f.getModifiers())) {
                Due.yes(f + " is final", Modifier.isFinal(f.getModifiers()));
            }
        }
    }

    private static Set<String> due() {
        String d = "DrillHeads.";
        return new TreeSet<>(Set.of(
                "public static final int DrillHeads.NONE",
                "public DrillHeads(int)",
                "public boolean " + d + "spindle(int,int,int,int) throws " + INDEX + "," + ARGUMENT,
                "public int " + d + "hole(int,int,int,int,int)" + STATE + "," + ARGUMENT,
                "public boolean " + d + "through(int,boolean) throws " + INDEX,
                "public boolean " + d + "clamp(int,int,int,int) throws " + ARGUMENT,
                "public int " + d + "mirror(int) throws " + ARGUMENT,
                "public int " + d + "run()",
                "public int " + d + "hit(int,int)" + STATE + "," + INDEX + "," + ARGUMENT,
                "public boolean " + d + "drills(int,int)" + STATE + "," + INDEX,
                "public int " + d + "by(int)" + STATE + "," + INDEX,
                "public boolean " + d + "single(int)" + STATE + "," + INDEX,
                "public int " + d + "order(int)" + STATE + "," + INDEX,
                "public long " + d + "travel()" + STATE,
                "public boolean " + d + "least()" + STATE,
                "public int " + d + "bound()" + STATE,
                "public int " + d + "places(int) throws " + INDEX,
                "public long " + d + "seconds()" + STATE));
    }

    private static Set<String> found() {
        Set<String> found = new TreeSet<>();
        for (Field f : DrillHeads.class.getDeclaredFields()) {
            if (!Modifier.isPrivate(f.getModifiers())) {
                found.add(f.toString());
            }
        }
        for (Constructor<?> c : DrillHeads.class.getDeclaredConstructors()) {
            if (!Modifier.isPrivate(c.getModifiers())) {
                found.add(c.toString());
            }
        }
        for (Method m : DrillHeads.class.getDeclaredMethods()) {
            if (!Modifier.isPrivate(m.getModifiers())) {
                found.add(m.toString());
            }
        }
        return found;
    }

    private DrillHeadsFace() {
    }
}
