import java.lang.reflect.Constructor;
import java.lang.reflect.Field;
import java.lang.reflect.Method;
import java.lang.reflect.Modifier;
import java.util.Arrays;
import java.util.Set;
import java.util.TreeSet;

/** The public face of the document, and nothing else that others could see (rule 1 of LANGUAGE.md). */
public final class FaceTest {
    private static final Set<String> METHODS = new TreeSet<>(Arrays.asList(
        "boolean feed(int, int, int, int, int)", "boolean end(int)", "int read()", "int length()", "boolean cut()",
        "boolean covers()", "int order()", "void turn()", "int write()", "int writtenAt(int)", "long bits(int)"));

    public static void main(String[] args) {
        Class<AddressTexts> face = AddressTexts.class;
        Check.same("modifiers", Modifier.PUBLIC | Modifier.FINAL, face.getModifiers());
        Check.same("NONE", -1, AddressTexts.NONE);
        Check.same("methods", METHODS, visibleMethods(face));
        Check.same("fields", new TreeSet<>(Arrays.asList("NONE")), visibleFields(face));
        Constructor<?>[] constructors = face.getDeclaredConstructors();
        Check.same("constructors", 1, constructors.length);
        Check.same("constructor", "public AddressTexts()", constructors[0].toString());
        noInnerNameOfTheFace(face);
        Check.finish();
    }

    private static Set<String> visibleMethods(Class<?> face) {
        Set<String> found = new TreeSet<>();
        for (Method method : face.getDeclaredMethods()) {
            if (!Modifier.isPrivate(method.getModifiers())) {
                String parameters = Arrays.toString(method.getParameterTypes());
                String inside = parameters.substring(1, parameters.length() - 1);
                found.add(method.getReturnType() + " " + method.getName() + "(" + inside + ")");
            }
        }
        return found;
    }

    private static Set<String> visibleFields(Class<?> face) {
        Set<String> found = new TreeSet<>();
        for (Field field : face.getDeclaredFields()) {
            if (!Modifier.isPrivate(field.getModifiers())) {
                found.add(field.getName());
            }
        }
        return found;
    }

    private static void noInnerNameOfTheFace(Class<?> face) {
        Set<String> names = new TreeSet<>();
        for (Method method : face.getMethods()) {
            names.add(method.getName());
        }
        for (Class<?> inner : face.getDeclaredClasses()) {
            for (Method method : inner.getDeclaredMethods()) {
                Check.same("name " + method + " is of the face", false, names.contains(method.getName()));
            }
        }
        for (Method method : face.getDeclaredMethods()) {
            boolean hides = Modifier.isPrivate(method.getModifiers()) && names.contains(method.getName());
            Check.same("name " + method + " is of the face", false, hides);
        }
    }
}
