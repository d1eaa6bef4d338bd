import java.io.IOException;
import java.lang.reflect.Field;
import java.lang.reflect.Method;
import java.lang.reflect.Modifier;
import java.nio.file.Files;
import java.nio.file.Path;
import java.util.ArrayList;
import java.util.List;
import java.util.Set;
import java.util.regex.Matcher;
import java.util.regex.Pattern;

/** The rules of LANGUAGE.md that can be seen in the text of the class, or in what the compiler made of it. */
public final class LanguageTest {
    private static final Path SOURCE = Path.of("src/main/java/Marktongue.java");
    private static final Set<String> FACE = Set.of("put", "take", "length", "character", "clear", "nodes", "node", "child",
            "owner", "leads", "count", "print", "printed", "format", "keep", "load", "merge");
    private static final Set<Class<?>> FIELDS = Set.of(int.class, long.class, boolean.class, int[].class, long[].class);

    public static void main(String[] args) throws IOException {
        String source = Files.readString(SOURCE);
        words(source);
        exceptions(source);
        methodSizes(source);
        List<Class<?>> classes = new ArrayList<>(List.of(Marktongue.class.getDeclaredClasses()));
        insideClasses(classes);
        classes.add(Marktongue.class);
        Due.same("11: some twelve classes", classes.size() <= 12, true);
        for (Class<?> one : classes) {
            fields(one, classes);
            hiddenNames(one);
        }
        Due.finish("LanguageTest");
    }

    /** Rules 1, 2, 4, 5, 6: what may not stand there at all. */
    private static void words(String source) {
        Due.same("4: signs", source.chars().allMatch(sign -> sign == '\n' || sign >= 32 && sign <= 126), true);
        for (String word : new String[] {"package", "protected", "finally", "synchronized", "assert", "native", "volatile", "new String\\(",
                "->", "::", "System\\.(?!arraycopy)", "Exact", "static \\{", "getMessage", "Throwable"}) {
            Due.same("no " + word, Pattern.compile("(^|\\W)" + word + "(\\W|$)").matcher(source).find(), false);
        }
        Due.same("10: texts joined by +", Pattern.compile("\"\\s*\\+|\\+=?\\s*\"").matcher(source).find(), false);
        Due.same("1: public members", source.split("\\bpublic\\b", -1).length - 1, 1 + 3 + 1 + FACE.size());
    }

    /** Rule 6: exceptions that the document names, thrown with a written text, and by methods of the face. */
    private static void exceptions(String source) {
        Matcher thrown = Pattern.compile("throw\\b(.*)").matcher(source);
        while (thrown.find()) {
            boolean isWritten = thrown.group(1)
                    .matches(" new (IndexOutOfBounds|IllegalArgument|IllegalState)Exception\\(\"[a-z ]*\"\\);");
            Due.same("6:" + thrown.group(1), isWritten, true);
        }
    }

    /** Rule 11: short methods with few parameters. */
    private static void methodSizes(String source) {
        Matcher method = Pattern.compile("(?ms)^( +)(?:[\\w\\[\\]]+ )+(\\w+)\\(([^)]*)\\)[^;{]*\\{\n(.*?)^\\1\\}").matcher(source);
        int many = 0;
        while (method.find()) {
            many++;
            Due.same("11: lines of " + method.group(2), method.group(4).split("\n").length <= 60, true);
            Due.same("11: parameters of " + method.group(2), method.group(3).split(",").length <= 7, true);
        }
        Due.same("methods that were looked at", many > 100, true);
    }

    /** Rule 1: classes inside are private or package-visible, and static. */
    private static void insideClasses(List<Class<?>> classes) {
        for (Class<?> one : classes) {
            boolean isOpen = Modifier.isPublic(one.getModifiers()) || Modifier.isProtected(one.getModifiers());
            Due.same("1: " + one + " is open", isOpen, false);
            Due.same("1: " + one + " is static", Modifier.isStatic(one.getModifiers()), true);
            Due.same("2: classes in " + one, one.getDeclaredClasses().length, 0);
        }
    }

    /** Rules 3, 5, 11: types of fields, static fields that are final, and some twenty others. */
    private static void fields(Class<?> one, List<Class<?>> classes) {
        int others = 0;
        for (Field field : one.getDeclaredFields()) {
            boolean isStatic = Modifier.isStatic(field.getModifiers());
            others += isStatic ? 0 : 1;
            boolean isAllowed = FIELDS.contains(field.getType()) || !isStatic && classes.contains(field.getType());
            Due.same("3: type of " + field, isAllowed, true);
            Due.same("5: " + field, isStatic && !Modifier.isFinal(field.getModifiers()), false);
        }
        Due.same("11: fields of " + one, others <= 20, true);
    }

    /** Rules 1 and 6: no hidden method bears a name of the face, and none is one of those that every object has. */
    private static void hiddenNames(Class<?> one) {
        for (Method method : one.getDeclaredMethods()) {
            boolean isFace = one == Marktongue.class && Modifier.isPublic(method.getModifiers());
            Due.same("1: name of " + method, !isFace && FACE.contains(method.getName()), false);
            Due.same("6: " + method, Set.of("equals", "hashCode", "toString", "finalize").contains(method.getName()), false);
        }
    }
}
