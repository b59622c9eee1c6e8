import java.lang.reflect.Constructor;
import java.lang.reflect.Field;
import java.lang.reflect.Method;
import java.lang.reflect.Modifier;
import java.nio.file.Files;
import java.nio.file.Path;
import java.util.Arrays;
import java.util.Set;
import java.util.TreeSet;

/** The public face of the document, word by word, and nothing beside it. */
final class FaceTest {
    public static void main(String[] arguments) throws Exception {
        Check.begin();
        Set<String> due = new TreeSet<>();
        for (String line : Files.readAllLines(Path.of(arguments.length > 0 ? arguments[0] : "../shared/DOC.md"))) {
            if (line.startsWith("    public ") && !line.contains("public PaperBoatInsurer(")) {
                due.add(line.trim().replaceAll(" [a-z]+([,)])", "$1").replace(";", ""));
            }
        }
        Set<String> got = new TreeSet<>();
        Set<String> hidden = new TreeSet<>();
        for (Method method : PaperBoatInsurer.class.getDeclaredMethods()) {
            if (Modifier.isPrivate(method.getModifiers())) {
                hidden.add(method.getName());
            } else {
                got.add(text(method));
            }
        }
        Check.due("the public methods", got, due);
        for (Method method : PaperBoatInsurer.class.getMethods()) {
            Check.holds("no private method is named " + method.getName(), !hidden.contains(method.getName()));
        }
        for (Field field : PaperBoatInsurer.class.getDeclaredFields()) {
            Check.holds(field.getName() + " is private", Modifier.isPrivate(field.getModifiers()));
        }
        Constructor<?>[] constructors = PaperBoatInsurer.class.getDeclaredConstructors();
        Check.due("the number of constructors", constructors.length, 1);
        Check.holds("the constructor is public", Modifier.isPublic(constructors[0].getModifiers()));
        Check.holds("the class is final", Modifier.isFinal(PaperBoatInsurer.class.getModifiers()));
        Check.end();
    }

    private static String text(Method method) {
        String parameters = names(method.getParameterTypes());
        String thrown = names(method.getExceptionTypes());
        return "public " + method.getReturnType().getSimpleName() + " " + method.getName() + "(" + parameters + ")"
                + (thrown.isEmpty() ? "" : " throws " + thrown);
    }

    private static String names(Class<?>[] classes) {
        return String.join(", ", Arrays.stream(classes).map(Class::getSimpleName).toList());
    }
}
