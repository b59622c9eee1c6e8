import com.sun.source.tree.CompilationUnitTree;
import com.sun.source.tree.MethodTree;
import com.sun.source.tree.Tree;
import com.sun.source.util.JavacTask;
import com.sun.source.util.TreePath;
import com.sun.source.util.TreePathScanner;
import com.sun.source.util.Trees;
import java.nio.file.Path;
import java.util.ArrayList;
import java.util.LinkedHashMap;
import java.util.LinkedHashSet;
import java.util.List;
import java.util.Map;
import java.util.Set;
import java.util.function.Consumer;
import javax.lang.model.element.Element;
import javax.lang.model.element.ElementKind;
import javax.lang.model.element.ExecutableElement;
import javax.lang.model.element.TypeElement;
import javax.lang.model.type.TypeMirror;
import javax.tools.JavaCompiler;
import javax.tools.ToolProvider;

/** The program as the compiler sees it: its trees, and what its names stand for. */
final class Code {
    private final JavacTask task;
    private final CompilationUnitTree unit;
    private final Trees trees;

    Code(Path file) throws Exception {
        JavaCompiler compiler = ToolProvider.getSystemJavaCompiler();
        var files = compiler.getStandardFileManager(null, null, null);
        task = (JavacTask) compiler.getTask(null, files, null, List.of("-proc:none"), null, files.getJavaFileObjects(file));
        unit = task.parse().iterator().next();
        task.analyze();
        trees = Trees.instance(task);
    }

    /** Goes through all trees but those that the compiler has added, which have no end. */
    void each(Consumer<TreePath> look) {
        new TreePathScanner<Void, Void>() {
            @Override
            public Void scan(Tree tree, Void nothing) {
                if (tree == null || endOf(tree) < 0) {
                    return null;
                }
                look.accept(new TreePath(getCurrentPath(), tree));
                return super.scan(tree, nothing);
            }
        }.scan(new TreePath(unit), null);
    }

    private long endOf(Tree tree) {
        return trees.getSourcePositions().getEndPosition(unit, tree);
    }

    /** The line where it begins, with its first words. */
    String where(Tree tree) {
        long line = unit.getLineMap().getLineNumber(trees.getSourcePositions().getStartPosition(unit, tree));
        String text = tree.toString().trim().replaceAll("\\s+", " ");
        return "line " + line + ", " + text.substring(0, Math.min(60, text.length()));
    }

    long linesOf(Tree tree) {
        long first = unit.getLineMap().getLineNumber(trees.getSourcePositions().getStartPosition(unit, tree));
        return unit.getLineMap().getLineNumber(endOf(tree)) - first + 1;
    }

    Element element(TreePath path) {
        return trees.getElement(path);
    }

    TypeMirror type(TreePath path) {
        return trees.getTypeMirror(path);
    }

    TypeMirror type(TreePath path, Tree below) {
        return trees.getTypeMirror(new TreePath(path, below));
    }

    /** Whether it stands in the program, not in the library. */
    static boolean isOwn(Element element) {
        Element outer = element;
        while (outer.getEnclosingElement() != null && outer.getEnclosingElement().getKind() != ElementKind.PACKAGE) {
            outer = outer.getEnclosingElement();
        }
        return outer.getSimpleName().contentEquals("PaperBoatInsurer");
    }

    static TreePath around(TreePath path, Class<? extends Tree> kind) {
        TreePath up = path.getParentPath();
        while (up != null && !kind.isInstance(up.getLeaf())) {
            up = up.getParentPath();
        }
        return up;
    }

    /** The methods of the program, each with those that it may call; an abstract one stands for all that override it. */
    Map<Element, Set<Element>> calls() {
        Map<Element, Set<Element>> calls = new LinkedHashMap<>();
        each(path -> {
            if (path.getLeaf() instanceof MethodTree) {
                calls.put(element(path), new LinkedHashSet<>());
            }
        });
        List<Element> methods = new ArrayList<>(calls.keySet());
        each(path -> {
            TreePath caller = around(path, MethodTree.class);
            if (caller != null && element(path) instanceof ExecutableElement called && isOwn(called)) {
                methods.stream().filter(method -> method.equals(called) || overrides(method, called))
                        .forEach(calls.get(element(caller))::add);
            }
        });
        return calls;
    }

    private boolean overrides(Element method, ExecutableElement other) {
        return task.getElements().overrides((ExecutableElement) method, other, (TypeElement) method.getEnclosingElement());
    }
}
