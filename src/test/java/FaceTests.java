import java.lang.management.ManagementFactory;
import java.lang.reflect.Array;
import java.lang.reflect.Field;
import java.lang.reflect.Member;
import java.lang.reflect.Method;
import java.lang.reflect.Modifier;
import java.util.ArrayList;
import java.util.IdentityHashMap;
import java.util.List;
import java.util.Map;
import java.util.TreeSet;

/** The class's face is the document's and no more, and its objects keep within the room of a run. */
public final class FaceTests {
    private static final String[] FACE = {
        "int NONE", "int FINE", "int TOO_LARGE", "int TOO_MANY", "ClassCharacters()",
        "boolean add(int)", "void clear()", "int build()", "int order()", "int element(int)",
        "int classOf(int)", "int classes()", "int size(int)", "int least(int)", "int power(int, int)",
        "int constant(int, int, int)", "int exponent()", "int prime()", "int root()", "int degree(int)",
        "int value(int, int)", "int multiplicity(int, int, int)", "int indicator(int)",
        "int kernel(int)", "int normals()"};

    private static int wrong = 0;

    public static void main(String[] args) throws IllegalAccessException {
        check("the constants", ClassCharacters.NONE == -1 && ClassCharacters.FINE == 0
            && ClassCharacters.TOO_LARGE == 1 && ClassCharacters.TOO_MANY == 2);
        check("public and final", Modifier.isPublic(ClassCharacters.class.getModifiers())
            && Modifier.isFinal(ClassCharacters.class.getModifiers()));
        checkMembers();
        checkInside();
        checkRoom();
        checkCallsMakeNothing();
        System.out.println(wrong == 0 ? "the face and the room are as due" : wrong + " faults");
        if (wrong != 0) {
            System.exit(1);
        }
    }

    private static void check(String what, boolean holds) {
        if (!holds) {
            wrong++;
            System.out.println("not so: " + what);
        }
    }

    private static void checkMembers() {
        TreeSet<String> want = new TreeSet<>(List.of(FACE));
        TreeSet<String> got = new TreeSet<>();
        Class<?> face = ClassCharacters.class;
        List<Member> members = new ArrayList<>(List.of(face.getDeclaredFields()));
        members.addAll(List.of(face.getDeclaredMethods()));
        members.addAll(List.of(face.getDeclaredConstructors()));
        TreeSet<String> publicNames = new TreeSet<>();
        for (Member member : members) {
            if (Modifier.isPublic(member.getModifiers())) {
                got.add(written(member));
                publicNames.add(member.getName());
            } else {
                check(member + " is private", Modifier.isPrivate(member.getModifiers()));
            }
        }
        check("the face is " + want + " and not " + got, want.equals(got));
        for (Class<?> any : allClasses()) {
            for (Method method : any.getDeclaredMethods()) {
                check(method + " has a name of the face",
                    Modifier.isPublic(method.getModifiers()) || !publicNames.contains(method.getName()));
            }
        }
    }

    private static String written(Member member) {
        if (member instanceof Field field) {
            return field.getType().getSimpleName() + " " + field.getName();
        }
        if (member instanceof Method method) {
            return method.getReturnType().getSimpleName() + " " + method.getName() + written(method.getParameterTypes());
        }
        return member.getName() + "()";
    }

    private static String written(Class<?>[] types) {
        StringBuilder text = new StringBuilder("(");
        for (Class<?> type : types) {
            text.append(text.length() > 1 ? ", " : "").append(type.getSimpleName());
        }
        return text.append(")").toString();
    }

    private static List<Class<?>> allClasses() {
        List<Class<?>> all = new ArrayList<>(List.of(ClassCharacters.class.getDeclaredClasses()));
        all.add(ClassCharacters.class);
        return all;
    }

    private static void checkInside() {
        for (Class<?> inside : ClassCharacters.class.getDeclaredClasses()) {
            check(inside + " is static", Modifier.isStatic(inside.getModifiers()));
            check(inside + " is not public", !Modifier.isPublic(inside.getModifiers()));
        }
        for (Class<?> any : allClasses()) {
            for (Field field : any.getDeclaredFields()) {
                check(field + " is final", !Modifier.isStatic(field.getModifiers())
                    || Modifier.isFinal(field.getModifiers()));
            }
        }
    }

    /** 512 objects must fit a room of 600,000 objects and 7,300,000 fields and elements. */
    private static void checkRoom() throws IllegalAccessException {
        Map<Object, Boolean> seen = new IdentityHashMap<>();
        long parts = partsOf(new ClassCharacters(), seen);
        System.out.println("an object holds " + seen.size() + " objects with " + parts + " fields and elements");
        check("few objects", seen.size() * 512L < 600000);
        check("few fields and elements", parts * 512L < 7300000);
    }

    private static long partsOf(Object object, Map<Object, Boolean> seen) throws IllegalAccessException {
        if (object == null || seen.put(object, true) != null) {
            return 0;
        }
        long parts = 0;
        if (object.getClass().isArray()) {
            parts = Array.getLength(object);
            if (object instanceof Object[] array) {
                for (Object part : array) {
                    parts += partsOf(part, seen);
                }
            }
            return parts;
        }
        for (Field field : object.getClass().getDeclaredFields()) {
            if (!Modifier.isStatic(field.getModifiers())) {
                field.setAccessible(true);
                parts++;
                parts += field.getType().isPrimitive() ? 0 : partsOf(field.get(object), seen);
            }
        }
        return parts;
    }

    private static void checkCallsMakeNothing() {
        if (!(ManagementFactory.getThreadMXBean() instanceof com.sun.management.ThreadMXBean threads)
            || threads.getCurrentThreadAllocatedBytes() < 0) {
            return;
        }
        useAll(new ClassCharacters());
        ClassCharacters x = new ClassCharacters();
        long before = threads.getCurrentThreadAllocatedBytes();
        int calls = useAll(x);
        long made = threads.getCurrentThreadAllocatedBytes() - before;
        System.out.println(calls + " calls made " + made + " bytes of objects");
        check("calls make no objects", made < 1000);
    }

    /** Groups of 120 elements, of 16 classes, too large and too many, with every method. */
    private static int useAll(ClassCharacters x) {
        int calls = 0;
        for (int round = 0; round < 20; round++) {
            x.clear();
            x.add(round % 2 == 0 ? 2736503 : 2177399);
            x.add(round % 3 == 0 ? 371063 : 2177399);
            x.add(round % 4 == 0 ? 342839 : 342391);
            x.add(round % 5 == 0 ? 342398 : 342391);
            x.build();
            x.order();
            x.element(1);
            x.classOf(342391);
            x.classes();
            x.size(1);
            x.least(1);
            x.power(1, 999);
            x.constant(1, 1, 0);
            x.exponent();
            x.prime();
            x.root();
            x.degree(1);
            x.value(1, 1);
            x.multiplicity(1, 1, 1);
            x.indicator(1);
            x.kernel(1);
            x.normals();
            calls += 23;
        }
        return calls;
    }
}
