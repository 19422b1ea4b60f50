import java.lang.reflect.Constructor;
import java.lang.reflect.Field;
import java.lang.reflect.Member;
import java.lang.reflect.Method;
import java.lang.reflect.Modifier;
import java.util.Set;
import java.util.TreeSet;

/** The face has what the document tells, and no more (rule 1 of LANGUAGE.md). */
public final class FaceTest {
    private static final Set<String> METHODS = Set.of(
            "public boolean SegmentForms.add(int)",
            "public int SegmentForms.read()",
            "public int SegmentForms.row(int,int,int,int,int) throws "
                    + "java.lang.IllegalArgumentException,java.lang.IllegalStateException",
            "public int SegmentForms.check() throws java.lang.IllegalStateException",
            "public int SegmentForms.fault(int)",
            "public int SegmentForms.segment(int,int) throws java.lang.IndexOutOfBoundsException",
            "public int SegmentForms.repeats(int,int) throws java.lang.IndexOutOfBoundsException",
            "public int SegmentForms.components(int,int,int) throws "
                    + "java.lang.IndexOutOfBoundsException",
            "public int SegmentForms.field(int,int,int,int) throws "
                    + "java.lang.IndexOutOfBoundsException",
            "public int SegmentForms.letter(int,int,int,int,int) throws "
                    + "java.lang.IndexOutOfBoundsException",
            "public int SegmentForms.build() throws java.lang.IllegalStateException",
            "public int SegmentForms.at(int) throws java.lang.ArrayIndexOutOfBoundsException",
            "public int SegmentForms.count(int)");

    private static final Due due = new Due("FaceTest");

    public static void main(String[] args) {
        Class<?> face = SegmentForms.class;
        due.is(Modifier.PUBLIC | Modifier.FINAL, "modifiers of the class", face.getModifiers());
        due.is(-1, "NONE", SegmentForms.NONE);

        Set<String> methods = new TreeSet<>();
        Set<String> names = new TreeSet<>();
        for (Method method : face.getDeclaredMethods()) {
            if (!Modifier.isPrivate(method.getModifiers())) {
                methods.add(method.toString());
                names.add(method.getName());
            }
        }
        due.is(new TreeSet<>(METHODS).toString(), "methods of the face", methods.toString());

        Set<String> fields = new TreeSet<>();
        for (Field field : face.getDeclaredFields()) {
            if (!Modifier.isPrivate(field.getModifiers())) {
                fields.add(field.toString());
            }
        }
        due.is("[public static final int SegmentForms.NONE]", "fields of the face",
                fields.toString());

        Constructor<?>[] made = face.getDeclaredConstructors();
        due.is(1, "constructors", made.length);
        due.is("public SegmentForms()", "the constructor", made[0].toString());

        privateNames(face, names);
        for (Class<?> inside : face.getDeclaredClasses()) {
            due.is(true, inside + " is static", Modifier.isStatic(inside.getModifiers()));
            privateNames(inside, names);
        }
        due.end();
    }

    private static void privateNames(Class<?> where, Set<String> names) {
        for (Member method : where.getDeclaredMethods()) {
            boolean face = Modifier.isPublic(method.getModifiers());
            due.is(false, method + " bears a name of the face",
                    !face && names.contains(method.getName()));
        }
    }
}
