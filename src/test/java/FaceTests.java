import java.lang.reflect.Field;
import java.lang.reflect.Method;
import java.lang.reflect.Modifier;
import java.util.TreeSet;

/** The public face has nothing beside what the document tells, and nothing inside is seen from without. */
final class FaceTests {
    private FaceTests() {
    }

    static void run(Check check) {
        TreeSet<String> face = new TreeSet<>();
        TreeSet<String> names = new TreeSet<>();
        for (Method method : LiftNovel.class.getDeclaredMethods()) {
            if (Modifier.isPublic(method.getModifiers())) {
                face.add(Face.declaration(method));
                names.add(method.getName());
            }
        }
        for (int i = 0; i < Face.DECLARATIONS.length; i++) {
            String declaration = Face.DECLARATIONS[i];
            check.yes(i + 2, "the face has " + declaration, face.remove(Face.withoutNames(declaration)));
        }
        check.same(1, "what the face has beside it", face.toString(), "[]");
        fields(check);
        otherMethods(check, LiftNovel.class, names);
        for (Class<?> inside : LiftNovel.class.getDeclaredClasses()) {
            check.yes(1, inside + " is static", Modifier.isStatic(inside.getModifiers()));
            check.no(1, inside + " is public or protected",
                    Modifier.isPublic(inside.getModifiers()) || Modifier.isProtected(inside.getModifiers()));
            otherMethods(check, inside, names);
        }
    }

    private static void fields(Check check) {
        for (Field field : LiftNovel.class.getDeclaredFields()) {
            check.yes(1, field + " is private", Modifier.isPrivate(field.getModifiers()));
            check.yes(1, field + " is final", Modifier.isFinal(field.getModifiers()));
        }
    }

    private static void otherMethods(Check check, Class<?> owner, TreeSet<String> names) {
        for (Method method : owner.getDeclaredMethods()) {
            boolean isFace = owner == LiftNovel.class && Modifier.isPublic(method.getModifiers());
            if (isFace || method.isSynthetic()) {
                continue;
            }
            check.no(1, method + " bears the name of a public one", names.contains(method.getName()));
            check.no(1, method + " is public or protected",
                    Modifier.isPublic(method.getModifiers()) || Modifier.isProtected(method.getModifiers()));
            check.yes(1, method + " is private, or inside",
                    owner != LiftNovel.class || Modifier.isPrivate(method.getModifiers()));
        }
    }
}
