import java.lang.reflect.Constructor;
import java.lang.reflect.Field;
import java.lang.reflect.Method;
import java.lang.reflect.Modifier;
import java.util.Arrays;
import java.util.Set;
import java.util.TreeSet;

/** The public face is that of the document, and nothing else can be seen from outside. */
public final class FaceTest {

    private static final String[] FACE = {
        "int place(int) throws IllegalArgumentException UnsupportedOperationException",
        "int piece(int,int,long,long) throws IllegalArgumentException ArithmeticException UnsupportedOperationException",
        "int lift(int,int,long) throws IllegalArgumentException UnsupportedOperationException",
        "void limit(int,int,long) throws IllegalArgumentException",
        "int mover(int,long) throws IllegalArgumentException UnsupportedOperationException",
        "int closed(int,boolean) throws IllegalArgumentException",
        "int turn(int,int,boolean) throws IllegalArgumentException",
        "int door(int,int,boolean) throws IllegalArgumentException",
        "long way(int,int,int,long) throws IllegalArgumentException",
        "int step(int) throws",
        "boolean reaches(int,int,int) throws IllegalArgumentException",
        "int mark(int) throws IllegalArgumentException IllegalStateException UnsupportedOperationException",
        "long table(int,int) throws IllegalArgumentException IllegalStateException",
        "long k(int,int,int) throws IllegalArgumentException IllegalStateException",
        "long told(int,int) throws IllegalArgumentException",
        "int count(int) throws",
    };

    public static void main(String[] args) {
        Check check = new Check("The public face");
        check.note(new TreeSet<>(Arrays.asList(FACE)).toString(), "visible methods", visibleMethods().toString());
        check.yes("the class is public and final",
                Modifier.isPublic(WayGraph.class.getModifiers()) && Modifier.isFinal(WayGraph.class.getModifiers()));
        Constructor<?>[] constructors = WayGraph.class.getDeclaredConstructors();
        check.yes("one public constructor without parameters", constructors.length == 1
                && Modifier.isPublic(constructors[0].getModifiers()) && constructors[0].getParameterCount() == 0);
        for (Field field : WayGraph.class.getDeclaredFields()) {
            check.yes("private: " + field.getName(), Modifier.isPrivate(field.getModifiers()));
            check.yes("no static state: " + field.getName(), !Modifier.isStatic(field.getModifiers())
                    || Modifier.isFinal(field.getModifiers()));
        }
        for (Class<?> inside : WayGraph.class.getDeclaredClasses()) {
            int modifiers = inside.getModifiers();
            check.yes("inside, static and not public: " + inside.getSimpleName(), Modifier.isStatic(modifiers)
                    && !Modifier.isPublic(modifiers) && !Modifier.isProtected(modifiers));
        }
        check.note("[]", "hidden methods that bear the name of a public one", hiddenNamesakes().toString());
        check.finish();
    }

    private static Set<String> hiddenNamesakes() {
        Set<String> visible = new TreeSet<>();
        Set<String> hidden = new TreeSet<>();
        for (Method method : WayGraph.class.getDeclaredMethods()) {
            (Modifier.isPublic(method.getModifiers()) ? visible : hidden).add(method.getName());
        }
        for (Class<?> inside : WayGraph.class.getDeclaredClasses()) {
            for (Method method : inside.getDeclaredMethods()) {
                hidden.add(method.getName());
            }
        }
        hidden.retainAll(visible);
        return hidden;
    }

    private static Set<String> visibleMethods() {
        Set<String> visible = new TreeSet<>();
        for (Method method : WayGraph.class.getDeclaredMethods()) {
            if (!Modifier.isPrivate(method.getModifiers())) {
                StringBuilder parameters = new StringBuilder();
                for (Class<?> type : method.getParameterTypes()) {
                    parameters.append(parameters.length() == 0 ? "" : ",").append(type.getName());
                }
                StringBuilder exceptions = new StringBuilder(" throws");
                for (Class<?> type : method.getExceptionTypes()) {
                    exceptions.append(' ').append(type.getSimpleName());
                }
                visible.add(method.getReturnType().getName() + " " + method.getName() + "(" + parameters + ")"
                        + exceptions);
            }
        }
        return visible;
    }
}
