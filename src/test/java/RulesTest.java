import com.sun.source.tree.BinaryTree;
import com.sun.source.tree.CatchTree;
import com.sun.source.tree.ClassTree;
import com.sun.source.tree.CompoundAssignmentTree;
import com.sun.source.tree.IdentifierTree;
import com.sun.source.tree.LiteralTree;
import com.sun.source.tree.MethodTree;
import com.sun.source.tree.NewClassTree;
import com.sun.source.tree.ThrowTree;
import com.sun.source.tree.Tree;
import com.sun.source.tree.Tree.Kind;
import com.sun.source.tree.TryTree;
import com.sun.source.tree.TypeCastTree;
import com.sun.source.tree.VariableTree;
import com.sun.source.util.TreePath;
import java.nio.file.Files;
import java.nio.file.Path;
import java.util.HashMap;
import java.util.HashSet;
import java.util.Map;
import java.util.Set;
import javax.lang.model.element.Element;
import javax.lang.model.element.ElementKind;
import javax.lang.model.element.ExecutableElement;
import javax.lang.model.element.Modifier;
import javax.lang.model.element.TypeElement;
import javax.lang.model.type.ArrayType;
import javax.lang.model.type.TypeKind;
import javax.lang.model.type.TypeMirror;

/** The rules of the language that can be seen in the program without running it; the numbers are those of the rules. */
final class RulesTest {
    private static final int MOST_CLASSES = 12;
    private static final int MOST_FIELDS = 20;
    private static final int MOST_PARAMETERS = 7;
    private static final int MOST_LINES_OF_METHOD = 60;
    private static final int MOST_DEPTH = 8;
    private static final Set<String> THROWN = Set.of("IllegalStateException", "IllegalArgumentException",
            "IndexOutOfBoundsException", "ArithmeticException", "UnsupportedOperationException", "NoSuchElementException",
            "RuntimeException");
    /** The machine throws none of these, nor one that stands below them. */
    private static final Set<String> CAUGHT = Set.of("IllegalStateException", "IllegalArgumentException",
            "UnsupportedOperationException", "NoSuchElementException");
    private static final Set<String> TYPES = Set.of("void", "int", "long", "short", "byte", "char", "boolean", "double",
            "float", "String", "StringBuilder", "Integer", "ArrayList", "List", "Iterator", "Iterable", "Comparable");
    private static final Set<String> LIBRARY = Set.of("String.length()", "String.charAt(int)", "String.isEmpty()",
            "String.equals(java.lang.Object)", "String.indexOf(int)", "String.substring(int)", "String.substring(int,int)",
            "String.toCharArray()", "String.String(char[])", "StringBuilder.StringBuilder()", "StringBuilder.append(char)",
            "StringBuilder.append(java.lang.String)", "StringBuilder.append(int)", "StringBuilder.charAt(int)",
            "StringBuilder.setCharAt(int,char)", "StringBuilder.setLength(int)", "StringBuilder.deleteCharAt(int)",
            "StringBuilder.reverse()", "StringBuilder.length()", "StringBuilder.toString()", "ArrayList.ArrayList()",
            "System.arraycopy(java.lang.Object,int,java.lang.Object,int,int)", "Array.clone()", "Array.length",
            "Object.Object()", "Enum.Enum(java.lang.String,int)");
    private static final Set<String> LIST = Set.of("add", "get", "set", "remove", "size", "isEmpty", "clear", "of");
    private static final Set<String> ARRAYS = Set.of("copyOf", "copyOfRange", "fill");
    private static final Map<Kind, Integer> FORBIDDEN = Map.of(Kind.PACKAGE, 0, Kind.LAMBDA_EXPRESSION, 2,
            Kind.MEMBER_REFERENCE, 2, Kind.SYNCHRONIZED, 6, Kind.ASSERT, 6);

    private final Code code;

    private RulesTest(Path file) throws Exception {
        code = new Code(file);
    }

    public static void main(String[] arguments) throws Exception {
        Check.begin();
        Path file = Path.of(arguments.length > 0 ? arguments[0] : "src/main/java/PaperBoatInsurer.java");
        Check.holds("3: the program is ASCII", Files.readString(file).chars().allMatch(character -> character < 127));
        RulesTest test = new RulesTest(file);
        test.code.each(test::look);
        test.lookAtClasses();
        test.lookAtCalls();
        Check.end();
    }

    private void rule(int number, Tree tree, boolean holds) {
        if (!holds) {
            Check.due("rule " + number + ", " + code.where(tree), "broken", "kept");
        }
        Check.holds("rule " + number, true);
    }

    private void look(TreePath path) {
        Tree tree = path.getLeaf();
        rule(FORBIDDEN.getOrDefault(tree.getKind(), 0), tree, !FORBIDDEN.containsKey(tree.getKind()));
        rule(5, tree, tree.getKind() != Kind.BLOCK || path.getParentPath().getLeaf().getKind() != Kind.CLASS);
        if (tree instanceof MethodTree method) {
            rule(11, tree, method.getParameters().size() <= MOST_PARAMETERS);
            rule(11, tree, code.linesOf(tree) <= MOST_LINES_OF_METHOD);
            rule(6, tree, !Set.of("equals", "hashCode", "toString").contains(method.getName().toString()));
            rule(6, tree, !code.element(path).getModifiers().contains(Modifier.SYNCHRONIZED));
        } else if (tree instanceof VariableTree) {
            lookAtVariable(path);
        } else if (tree instanceof BinaryTree || tree instanceof CompoundAssignmentTree) {
            lookAtOperands(path);
        } else if (tree instanceof TypeCastTree) {
            rule(6, tree, code.type(path).getKind().isPrimitive() || isOwn(code.type(path)));
        } else {
            lookAtExceptions(path);
        }
        lookAtLibrary(path);
    }

    private void lookAtVariable(TreePath path) {
        Element variable = code.element(path);
        TypeMirror type = variable.asType();
        rule(3, path.getLeaf(), path.getParentPath().getLeaf() instanceof CatchTree || isAllowed(type));
        if (variable.getKind() == ElementKind.FIELD && variable.getModifiers().contains(Modifier.STATIC)) {
            Tree value = ((VariableTree) path.getLeaf()).getInitializer();
            boolean isOfValues = value != null && value.toString().equals("values()");
            rule(5, path.getLeaf(), variable.getModifiers().contains(Modifier.FINAL));
            rule(5, path.getLeaf(), isOfValues || Set.of("int", "long", "boolean", "char", "java.lang.String", "int[]",
                    "long[]", "char[]", "byte[]").contains(type.toString()));
        }
    }

    /** Arrays of two dimensions hold numbers alone, and there are none of three. */
    private static boolean isAllowed(TypeMirror type) {
        if (type instanceof ArrayType array && array.getComponentType() instanceof ArrayType inner) {
            return inner.getComponentType().getKind().isPrimitive();
        }
        TypeMirror element = type instanceof ArrayType array ? array.getComponentType() : type;
        return TYPES.contains(nameOf(element)) || isOwn(element) || element.getKind() == TypeKind.TYPEVAR;
    }

    private static boolean isOwn(TypeMirror type) {
        return type.toString().startsWith("PaperBoatInsurer");
    }

    private static String nameOf(TypeMirror type) {
        return type.toString().replaceAll("<.*", "").replaceAll("^java\\.(lang|util)\\.", "");
    }

    /** No texts are joined, and neither texts nor Integers are compared with == and !=. */
    private void lookAtOperands(TreePath path) {
        Tree tree = path.getLeaf();
        boolean isComparison = tree.getKind() == Kind.EQUAL_TO || tree.getKind() == Kind.NOT_EQUAL_TO;
        rule(10, tree, isComparison || code.type(path).getKind().isPrimitive());
        if (tree instanceof BinaryTree binary && isComparison) {
            Set<String> both = Set.of("String", "Integer");
            rule(6, tree, !both.contains(nameOf(code.type(path, binary.getLeftOperand())))
                    || !both.contains(nameOf(code.type(path, binary.getRightOperand()))));
        }
    }

    private void lookAtExceptions(TreePath path) {
        Tree tree = path.getLeaf();
        if (tree instanceof ThrowTree thrown) {
            TreePath method = Code.around(path, MethodTree.class);
            rule(6, tree, thrown.getExpression() instanceof NewClassTree made && isNewException(made));
            rule(6, tree, code.element(method).getKind() != ElementKind.CONSTRUCTOR);
        } else if (tree instanceof TryTree attempt) {
            rule(6, tree, attempt.getFinallyBlock() == null && attempt.getResources().isEmpty());
            Element method = code.element(Code.around(path, MethodTree.class));
            code.each(other -> rule(6, other.getLeaf(), !(other.getLeaf() instanceof ThrowTree)
                    || code.element(Code.around(other, MethodTree.class)) != method));
        } else if (tree instanceof CatchTree caught) {
            rule(6, tree, CAUGHT.contains(caught.getParameter().getType().toString()));
        } else if (tree instanceof IdentifierTree && code.element(path) != null) {
            rule(6, tree, code.element(path).getKind() != ElementKind.EXCEPTION_PARAMETER);
        }
    }

    private static boolean isNewException(NewClassTree made) {
        return THROWN.contains(made.getIdentifier().toString())
                && made.getArguments().stream().allMatch(LiteralTree.class::isInstance);
    }

    /** Each name that stands for something in the library, with the types of its parameters. */
    private void lookAtLibrary(TreePath path) {
        Element element = code.element(path);
        if (element == null || element.getEnclosingElement() == null || Code.isOwn(element)) {
            return;
        }
        String owner = element.getEnclosingElement().getSimpleName().toString().replace("AbstractString", "String");
        if (element instanceof ExecutableElement called) {
            rule(4, path.getLeaf(), LIBRARY.contains(owner + "." + called) || isFunction(owner, called)
                    || called.getKind() == ElementKind.CONSTRUCTOR && THROWN.contains(owner));
        } else if (element.getKind().isField()) {
            rule(4, path.getLeaf(), LIBRARY.contains(owner + "." + element));
        }
    }

    /** The functions that have no list of their own: those over int and long, and those of arrays and lists. */
    private static boolean isFunction(String owner, ExecutableElement called) {
        String name = called.getSimpleName().toString();
        if (Set.of("Integer", "Long", "Math").contains(owner)) {
            boolean isOfNumbers = called.getParameters().stream().allMatch(one -> isWhole(one.asType()));
            return isOfNumbers && isWhole(called.getReturnType()) && !name.endsWith("Exact");
        }
        boolean isOfArrays = owner.equals("Arrays") && ARRAYS.contains(name);
        boolean isOfNumbers = isOfArrays && called.getParameters().get(0).asType() instanceof ArrayType array
                && array.getComponentType().getKind().isPrimitive();
        return isOfNumbers || Set.of("ArrayList", "List").contains(owner) && LIST.contains(name);
    }

    private static boolean isWhole(TypeMirror type) {
        return type.getKind() == TypeKind.INT || type.getKind() == TypeKind.LONG;
    }

    private void lookAtClasses() {
        Set<String> face = new HashSet<>();
        Set<String> hidden = new HashSet<>();
        int[] classes = {0};
        code.each(path -> {
            if (path.getLeaf() instanceof ClassTree) {
                classes[0]++;
                lookAtClass(path);
            } else if (path.getLeaf() instanceof MethodTree && code.element(path).getKind() == ElementKind.METHOD) {
                noteName(code.element(path), Modifier.PUBLIC, face);
                noteName(code.element(path), Modifier.PRIVATE, hidden);
            }
        });
        for (String name : face) {
            Check.holds("rule 1, no private method is named " + name, !hidden.contains(name));
        }
        Check.holds("11: classes", classes[0] > 1 && classes[0] <= MOST_CLASSES);
    }

    private static void noteName(Element method, Modifier modifier, Set<String> names) {
        if (method.getModifiers().contains(modifier)) {
            names.add(method.getSimpleName().toString());
        }
    }

    private void lookAtClass(TreePath path) {
        TypeElement type = (TypeElement) code.element(path);
        boolean isOutside = type.getEnclosingElement().getKind() == ElementKind.PACKAGE;
        int fields = 0;
        for (Element member : type.getEnclosedElements()) {
            Set<Modifier> modifiers = member.getModifiers();
            fields += member.getKind() == ElementKind.FIELD && !modifiers.contains(Modifier.STATIC) ? 1 : 0;
            boolean isFace = modifiers.contains(Modifier.PUBLIC) || modifiers.contains(Modifier.PRIVATE);
            rule(1, path.getLeaf(), !isOutside || isFace || member.getKind().isClass() || member.getKind().isInterface());
            boolean isEnums = type.getKind() == ElementKind.ENUM && modifiers.contains(Modifier.FINAL) && !isStatic(member);
            rule(2, path.getLeaf(), !isEnums || Set.of("int", "long", "boolean", "String").contains(nameOf(member.asType())));
        }
        rule(11, path.getLeaf(), fields <= MOST_FIELDS);
        Set<Modifier> due = isOutside ? Set.of(Modifier.PUBLIC, Modifier.FINAL) : Set.of(Modifier.STATIC);
        rule(1, path.getLeaf(), type.getModifiers().containsAll(due));
        rule(1, path.getLeaf(), isOutside || !type.getModifiers().contains(Modifier.PUBLIC));
        rule(6, path.getLeaf(), !type.getSuperclass().toString().startsWith("java.") || type.getKind() == ElementKind.ENUM
                || nameOf(type.getSuperclass()).equals("Object"));
    }

    private static boolean isStatic(Element member) {
        return member.getModifiers().contains(Modifier.STATIC);
    }

    /** Rule 8 leaves recursion to private static methods; a method that calls itself counts once in rule 11. */
    private void lookAtCalls() {
        Map<Element, Set<Element>> calls = code.calls();
        Map<Element, Integer> depths = new HashMap<>();
        for (Element method : calls.keySet()) {
            int depth = depthOf(method, calls, depths, new HashSet<>());
            Check.holds("rule 11, calls of " + method + " go " + depth + " deep", depth <= MOST_DEPTH);
            if (calls.get(method).contains(method)) {
                Check.holds("rule 8, " + method, method.getModifiers().containsAll(Set.of(Modifier.PRIVATE, Modifier.STATIC)));
            }
        }
    }

    private static int depthOf(Element method, Map<Element, Set<Element>> calls, Map<Element, Integer> depths,
            Set<Element> open) {
        if (depths.containsKey(method)) {
            return depths.get(method);
        }
        open.add(method);
        int depth = 0;
        for (Element called : calls.get(method)) {
            Check.holds("rule 8, " + method + " and " + called + " call one another",
                    called.equals(method) || !open.contains(called) || called.getModifiers().contains(Modifier.PRIVATE));
            depth = open.contains(called) ? depth : Math.max(depth, depthOf(called, calls, depths, open));
        }
        open.remove(method);
        depths.put(method, depth + 1);
        return depth + 1;
    }
}
