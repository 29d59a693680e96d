import java.lang.reflect.Constructor;
import java.lang.reflect.Field;
import java.lang.reflect.Member;
import java.lang.reflect.Method;
import java.lang.reflect.Modifier;
import java.util.Arrays;
import java.util.Set;
import java.util.TreeSet;
import java.util.stream.Collectors;

/** The public face, as the document has it: nothing is missing, and nothing else can be seen. */
public final class FaceTest {

    private static final String FACE = """
        public static final int NONE
        public static final int OPEN
        public static final int DONE
        public static final int FAILED
        public static final int CLOSED
        public Bumpherald()
        public int pack(int) IllegalArgumentException IllegalStateException
        public int need(int, int, int, int) IndexOutOfBoundsException IllegalArgumentException IllegalStateException
        public int trust(int, int) IndexOutOfBoundsException IllegalArgumentException
        public int patience(int) IllegalArgumentException
        public int freeze(int, int, int) IllegalArgumentException IllegalStateException
        public int raise(int, int, int) IndexOutOfBoundsException IllegalArgumentException IllegalStateException
        public boolean approve(int) IndexOutOfBoundsException IllegalStateException
        public int land(int, boolean) IndexOutOfBoundsException IllegalStateException
        public void close(int) IndexOutOfBoundsException IllegalStateException
        public int pass(int) IllegalArgumentException IllegalStateException
        public int day()
        public int version(int) IndexOutOfBoundsException
        public int raiseOf(int, int) IndexOutOfBoundsException IllegalArgumentException
        public int fails(int) IndexOutOfBoundsException IllegalStateException
        public boolean canLand(int) IndexOutOfBoundsException IllegalStateException
        public int load(int) IndexOutOfBoundsException
        public int fewest(int) IndexOutOfBoundsException IllegalStateException
        public int fewestAnew(int) IndexOutOfBoundsException IllegalStateException
        public char told(int, int) IndexOutOfBoundsException IllegalStateException
        """;

    private static int wrong = 0;

    public static void main(String[] args) {
        Class<?> type = Bumpherald.class;
        due("the modifiers of the class", Modifier.toString(type.getModifiers()), "public final");
        Set<String> want = new TreeSet<>(Arrays.asList(FACE.split("\n")));
        Set<String> got = faceOf(type);
        for (String member : want) {
            due(member, got.contains(member) ? "there" : "missing", "there");
        }
        for (String member : got) {
            due(member, want.contains(member) ? "in the document" : "not in it", "in the document");
        }
        due("the constants", Bumpherald.NONE + " " + Bumpherald.OPEN + " " + Bumpherald.DONE + " "
                + Bumpherald.FAILED + " " + Bumpherald.CLOSED, "-1 0 1 2 3");
        checkNames(type);
        checkClassesInside(type);
        System.out.println("the face: " + got.size() + " members, " + wrong + " wrong");
        if (wrong != 0) {
            System.exit(1);
        }
    }

    private static Set<String> faceOf(Class<?> type) {
        Set<String> face = new TreeSet<>();
        for (Field field : type.getDeclaredFields()) {
            if (isSeen(field)) {
                face.add(start(field) + field.getType().getSimpleName() + " " + field.getName());
            }
        }
        for (Constructor<?> made : type.getDeclaredConstructors()) {
            if (isSeen(made)) {
                face.add(start(made) + "Bumpherald(" + names(made.getParameterTypes(), ", ") + ")");
            }
        }
        for (Method method : type.getDeclaredMethods()) {
            if (isSeen(method)) {
                String thrown = names(method.getExceptionTypes(), " ");
                face.add(start(method) + method.getReturnType().getSimpleName() + " " + method.getName()
                        + "(" + names(method.getParameterTypes(), ", ") + ")" + (thrown.isEmpty() ? "" : " " + thrown));
            }
        }
        return face;
    }

    private static boolean isSeen(Member member) {
        return !Modifier.isPrivate(member.getModifiers());
    }

    private static String start(Member member) {
        return Modifier.toString(member.getModifiers()) + " ";
    }

    private static String names(Class<?>[] types, String between) {
        return Arrays.stream(types).map(Class::getSimpleName).collect(Collectors.joining(between));
    }

    private static void checkNames(Class<?> type) {
        Set<String> open = new TreeSet<>();
        for (Method method : type.getDeclaredMethods()) {
            if (isSeen(method)) {
                open.add(method.getName());
            }
        }
        for (Method method : type.getDeclaredMethods()) {
            if (!isSeen(method) && open.contains(method.getName())) {
                due("the private method " + method.getName(), "named as a public one", "named otherwise");
            }
        }
    }

    private static void checkClassesInside(Class<?> type) {
        for (Class<?> inside : type.getDeclaredClasses()) {
            int modifiers = inside.getModifiers();
            boolean fits = Modifier.isStatic(modifiers) && !Modifier.isPublic(modifiers)
                    && !Modifier.isProtected(modifiers);
            due("the class " + inside.getSimpleName(), fits ? "fits" : "does not fit", "fits");
        }
    }

    private static void due(String what, String got, String want) {
        if (!got.equals(want)) {
            wrong++;
            System.out.println("the face: " + what + " is " + got + ", due is " + want);
        }
    }
}
