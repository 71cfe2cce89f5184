import java.lang.reflect.Constructor;
import java.lang.reflect.Field;
import java.lang.reflect.Method;
import java.lang.reflect.Modifier;
import java.util.Set;
import java.util.TreeSet;

/** The public face is the document's, and nothing but it can be seen. */
public final class FaceTest {
    public static void main(String[] args) {
        Set<String> face = new TreeSet<>(Set.of(
                "boolean bar(int,int,boolean)", "boolean start(int,int)", "int tour(int,boolean,int)",
                "int at(int)", "int steps()", "int ways(int,int)", "int queens()", "int queen(int,int)",
                "boolean given(int,int,int)", "boolean fill()", "int number(int,int)", "int fills(int)",
                "int magic(int,int,int)"));
        Set<String> seen = new TreeSet<>();
        for (Method method : TourForms.class.getDeclaredMethods()) {
            if (!Modifier.isPrivate(method.getModifiers())) {
                seen.add(method.toString().replace("public ", "").replace("TourForms.", ""));
            }
        }
        Due.due("methods " + seen, seen.equals(face), true);
        Due.due("public and final", Modifier.isFinal(TourForms.class.getModifiers())
                && Modifier.isPublic(TourForms.class.getModifiers()), true);
        Constructor<?>[] constructors = TourForms.class.getDeclaredConstructors();
        Due.due("constructors", constructors.length, 1);
        Due.due("constructor", constructors[0].toString().equals("public TourForms(int,int)"), true);
        for (Field field : TourForms.class.getDeclaredFields()) {
            Due.due("private " + field, Modifier.isPrivate(field.getModifiers()), true);
        }
        Due.end();
    }
}
