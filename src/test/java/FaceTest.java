import java.lang.reflect.Constructor;
import java.lang.reflect.Field;
import java.lang.reflect.Method;
import java.lang.reflect.Modifier;
import java.util.Arrays;
import java.util.Set;
import java.util.TreeMap;
import java.util.TreeSet;

/** The public face is the document's, and nothing else of the class can be seen from outside. */
public final class FaceTest {
    private static final String ISE = "IllegalStateException";
    private static final String IOOBE = "IndexOutOfBoundsException";
    private static final String IAE = "IllegalArgumentException";
    private static final String NSEE = "NoSuchElementException";
    private static final String UOE = "UnsupportedOperationException";

    public static void main(String[] args) {
        Check check = new Check("face");
        TreeMap<String, String> face = faceOfDocument();
        TreeSet<String> seen = new TreeSet<>();
        for (Method method : PastTree.class.getDeclaredMethods()) {
            if (method.isSynthetic()) {
                continue;
            }
            if (Modifier.isPrivate(method.getModifiers())) {
                check.that("no private method has the public name " + method.getName(), !isNameOf(face, method));
                continue;
            }
            String form = formOf(method);
            seen.add(form);
            check.that(form + " is in the document", face.containsKey(form));
            check.same(form + " throws", namesOf(method.getExceptionTypes()), face.get(form));
        }
        check.that("all methods are there", seen.equals(face.keySet()));
        for (Field field : PastTree.class.getDeclaredFields()) {
            check.that(field.getName() + " is private", Modifier.isPrivate(field.getModifiers()));
            check.that(field.getName() + " is final, if static",
                    !Modifier.isStatic(field.getModifiers()) || Modifier.isFinal(field.getModifiers()));
        }
        Constructor<?>[] constructors = PastTree.class.getDeclaredConstructors();
        check.same("constructors", constructors.length, 1);
        check.that("the constructor is public", Modifier.isPublic(constructors[0].getModifiers()));
        check.same("its parameters", constructors[0].getParameterCount(), 0);
        int modifiers = PastTree.class.getModifiers();
        check.that("public final", Modifier.isPublic(modifiers) && Modifier.isFinal(modifiers));
        for (Class<?> inside : PastTree.class.getDeclaredClasses()) {
            holdClassInside(check, face, inside);
        }
        check.that("at most twelve classes", PastTree.class.getDeclaredClasses().length < 12);
        check.end();
    }

    /** Rules 1, 5 and 11 of LANGUAGE.md for a class inside. */
    private static void holdClassInside(Check check, TreeMap<String, String> face, Class<?> inside) {
        String name = inside.getSimpleName();
        int modifiers = inside.getModifiers();
        check.that(name + " is private and static", Modifier.isPrivate(modifiers) && Modifier.isStatic(modifiers));
        check.that(name + " has some twenty fields at most", inside.getDeclaredFields().length <= 20);
        for (Field field : inside.getDeclaredFields()) {
            check.that(name + "." + field.getName() + " is not static", !Modifier.isStatic(field.getModifiers()));
        }
        for (Method method : inside.getDeclaredMethods()) {
            check.that(name + "." + method.getName() + " has no public name", !isNameOf(face, method));
            check.that(name + "." + method.getName() + " is not public", !Modifier.isPublic(method.getModifiers()));
        }
    }

    private static boolean isNameOf(TreeMap<String, String> face, Method method) {
        Set<String> names = new TreeSet<>();
        for (String form : face.keySet()) {
            names.add(form.substring(form.indexOf(' ') + 1, form.indexOf('(')));
        }
        return names.contains(method.getName());
    }

    private static String formOf(Method method) {
        String visible = Modifier.isPublic(method.getModifiers()) ? "" : "not public ";
        return visible + method.getReturnType().getSimpleName() + " " + method.getName()
                + "(" + namesOf(method.getParameterTypes()) + ")";
    }

    private static String namesOf(Class<?>[] types) {
        return String.join(" ", Arrays.stream(types).map(Class::getSimpleName).toList());
    }

    private static TreeMap<String, String> faceOfDocument() {
        TreeMap<String, String> face = new TreeMap<>();
        face.put("int put(int long)", ISE + " " + UOE);
        face.put("int remove(int)", ISE + " " + NSEE + " " + UOE);
        face.put("int version()", ISE);
        face.put("boolean has(int int)", ISE + " " + IOOBE);
        face.put("long get(int int)", ISE + " " + IOOBE + " " + NSEE);
        face.put("int next(int int)", ISE + " " + IOOBE + " " + NSEE);
        face.put("int count(int int int)", ISE + " " + IOOBE);
        face.put("long sum(int int int)", ISE + " " + IOOBE);
        face.put("int differs(int int int)", ISE + " " + IOOBE + " " + IAE + " " + NSEE);
        face.put("int pages()", ISE);
        face.put("int page(int int)", ISE + " " + IOOBE + " " + IAE);
        face.put("int alive(int int)", ISE + " " + IOOBE);
        face.put("long entry(int int int)", ISE + " " + IOOBE + " " + IAE);
        face.put("int root(int)", ISE + " " + IOOBE);
        face.put("int bound()", ISE);
        face.put("boolean dense()", ISE);
        face.put("int sync()", ISE + " " + UOE);
        face.put("int checkpoint()", ISE);
        face.put("void cut(int)", ISE + " " + IAE);
        face.put("void down()", ISE);
        face.put("void spoil(int)", IOOBE);
        face.put("int start()", ISE);
        face.put("int disk(int)", IAE);
        return face;
    }
}
