import java.lang.reflect.Constructor;
import java.lang.reflect.Field;
import java.lang.reflect.Method;
import java.lang.reflect.Modifier;
import java.util.Arrays;
import java.util.Set;
import java.util.TreeSet;

/** The public face: constants, constructor, methods, and nothing else that is not private. */
public final class FaceTest {
    private static final String METHODS = "character(int) child(int,int) clear() count(int) format() keep(int) leads(int) "
            + "length() load(int) merge() node(int,int) nodes() owner(int) print(int) printed(int,int) put(int,int) take(int,int)";
    private static final String CONSTANTS = "CODE=11 DEFINITION=7 DOCUMENT=0 EMPHASIS=9 FAILED=-2 FENCE=5 HEADING=4 ITEM=3 "
            + "LINK=12 LIST=2 NONE=-1 PARAGRAPH=6 QUOTE=1 STRONG=10 TEXT=8";

    public static void main(String[] args) throws IllegalAccessException {
        Due.same("modifiers", Modifier.toString(Marktongue.class.getModifiers()), "public final");
        Set<String> methods = new TreeSet<>();
        Set<String> hidden = new TreeSet<>();
        for (Method method : Marktongue.class.getDeclaredMethods()) {
            if (Modifier.isPrivate(method.getModifiers())) {
                hidden.add(method.getName());
                continue;
            }
            String given = Arrays.toString(method.getParameterTypes()).replaceAll("[\\[\\] ]", "");
            methods.add(method.getName() + "(" + given + ")");
            Due.same(method + " is", Modifier.toString(method.getModifiers()) + " " + method.getReturnType(), "public int");
        }
        Due.same("methods", String.join(" ", methods), METHODS);
        for (String name : hidden) {
            Due.same("private " + name, METHODS.matches("(.* )?" + name + "\\(.*"), false);
        }
        Set<String> constants = new TreeSet<>();
        for (Field field : Marktongue.class.getDeclaredFields()) {
            if (!Modifier.isPrivate(field.getModifiers())) {
                constants.add(field.getName() + "=" + field.get(null));
                Due.same(field + " is", Modifier.toString(field.getModifiers()), "public static final");
            }
        }
        Due.same("constants", String.join(" ", constants), CONSTANTS);
        Constructor<?>[] constructors = Marktongue.class.getDeclaredConstructors();
        Due.same("constructors", constructors.length + " " + constructors[0], "1 public Marktongue()");
        Due.finish("FaceTest");
    }
}
