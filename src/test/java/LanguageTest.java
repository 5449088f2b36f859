import com.sun.source.tree.ClassTree;
import com.sun.source.tree.CompilationUnitTree;
import com.sun.source.tree.ForLoopTree;
import com.sun.source.tree.IdentifierTree;
import com.sun.source.tree.MemberSelectTree;
import com.sun.source.tree.MethodInvocationTree;
import com.sun.source.tree.MethodTree;
import com.sun.source.tree.NewArrayTree;
import com.sun.source.tree.NewClassTree;
import com.sun.source.tree.Tree;
import com.sun.source.tree.TypeCastTree;
import com.sun.source.tree.VariableTree;
import com.sun.source.util.JavacTask;
import com.sun.source.util.TreePath;
import com.sun.source.util.TreePathScanner;
import com.sun.source.util.Trees;
import java.io.IOException;
import java.nio.file.Path;
import java.util.List;
import java.util.Map;
import java.util.Set;
import java.util.TreeMap;
import java.util.TreeSet;
import javax.lang.model.element.Element;
import javax.lang.model.element.ElementKind;
import javax.lang.model.element.ExecutableElement;
import javax.lang.model.element.Modifier;
import javax.lang.model.type.TypeMirror;
import javax.tools.JavaCompiler;
import javax.tools.StandardJavaFileManager;
import javax.tools.ToolProvider;

/** LANGUAGE.md, as far as the compiler's tree of the program tells: what it uses, how it throws and how deep it calls. */
public final class LanguageTest {
    private static final Path PROGRAM = Path.of("src/main/java/FormRiver.java");

    private static final Set<String> LIBRARY = Set.of("java.util.ArrayList.add", "java.util.ArrayList.get",
            "java.util.ArrayList.size", "java.util.ArrayList.isEmpty", "java.lang.Math.max", "java.lang.Math.min",
            "java.lang.Math.abs");
    private static final Set<String> EXCEPTIONS = Set.of("IllegalStateException", "IllegalArgumentException",
            "IndexOutOfBoundsException", "ArithmeticException", "UnsupportedOperationException", "NoSuchElementException");
    private static final Set<String> TYPES = Set.of("int", "long", "char", "boolean", "double", "float", "int[]", "long[]",
            "boolean[]", "int[][]");
    /** Kinds of trees that the program does without, though the rules allow some of them. */
    private static final Set<Tree.Kind> UNUSED = Set.of(Tree.Kind.LAMBDA_EXPRESSION, Tree.Kind.MEMBER_REFERENCE,
            Tree.Kind.TRY, Tree.Kind.SYNCHRONIZED, Tree.Kind.ASSERT, Tree.Kind.SWITCH, Tree.Kind.SWITCH_EXPRESSION,
            Tree.Kind.WHILE_LOOP, Tree.Kind.DO_WHILE_LOOP, Tree.Kind.ENHANCED_FOR_LOOP, Tree.Kind.NULL_LITERAL,
            Tree.Kind.INSTANCE_OF, Tree.Kind.ANNOTATION);

    private final Map<String, Set<String>> calls = new TreeMap<>();
    private final Set<String> open = new TreeSet<>();
    private final Map<String, Integer> depths = new TreeMap<>();

    public static void main(String[] args) throws IOException {
        new LanguageTest().check();
        Checks.end();
    }

    private void check() throws IOException {
        JavaCompiler compiler = ToolProvider.getSystemJavaCompiler();
        try (StandardJavaFileManager files = compiler.getStandardFileManager(null, null, null)) {
            JavacTask task = (JavacTask) compiler.getTask(null, files, null, List.of("-proc:none"), null,
                    files.getJavaFileObjects(PROGRAM));
            CompilationUnitTree unit = task.parse().iterator().next();
            task.analyze();
            new Looker(unit, Trees.instance(task)).scan(unit, null);
        }
        int deepest = 0;
        for (String method : calls.keySet()) {
            deepest = Math.max(deepest, depthOf(method));
        }
        Checks.check(deepest <= 8, "8 calls deep at most", "" + deepest);
        Checks.check(deepest > 2, "a depth that was found", "" + deepest);
        System.out.println(calls.size() + " methods, " + deepest + " deep");
    }

    private int depthOf(String method) {
        if (depths.containsKey(method)) {
            return depths.get(method);
        }
        Checks.check(open.add(method), "no recursion", method);
        int deepest = 0;
        for (String called : calls.getOrDefault(method, Set.of())) {
            deepest = Math.max(deepest, open.contains(called) ? 99 : depthOf(called));
        }
        open.remove(method);
        depths.put(method, deepest + 1);
        return deepest + 1;
    }

    /** Goes through the tree of the program. */
    private final class Looker extends TreePathScanner<Void, Void> {
        private final CompilationUnitTree unit;
        private final Trees trees;
        private String method = "";
        private boolean isConstructor;

        Looker(CompilationUnitTree unit, Trees trees) {
            this.unit = unit;
            this.trees = trees;
        }

        @Override
        public Void scan(Tree tree, Void none) {
            if (tree != null) {
                rule(!UNUSED.contains(tree.getKind()), "nothing like this", tree);
            }
            return super.scan(tree, none);
        }

        @Override
        public Void visitClass(ClassTree tree, Void none) {
            boolean isOuter = getCurrentPath().getParentPath().getLeaf() == unit;
            Set<Modifier> modifiers = tree.getModifiers().getFlags();
            rule(isOuter || modifiers.containsAll(Set.of(Modifier.PRIVATE, Modifier.STATIC)), "private and static", tree);
            return super.visitClass(tree, none);
        }

        @Override
        public Void visitMethod(MethodTree tree, Void none) {
            Element element = trees.getElement(getCurrentPath());
            method = nameOf(element);
            isConstructor = element.getKind() == ElementKind.CONSTRUCTOR;
            calls.putIfAbsent(method, new TreeSet<>());
            rule(tree.getParameters().size() <= 7, "7 parameters at most", tree);
            if (!isConstructor || tree.getBody() != null) {
                rule(lines(tree) <= 60, "60 lines at most", tree);
            }
            return super.visitMethod(tree, none);
        }

        @Override
        public Void visitVariable(VariableTree tree, Void none) {
            Element element = trees.getElement(getCurrentPath());
            boolean isStatic = element.getModifiers().contains(Modifier.STATIC);
            rule(!isStatic || element.getModifiers().contains(Modifier.FINAL), "static fields are final", tree);
            rule(isType(element.asType()), "a type of the rules", tree);
            return super.visitVariable(tree, none);
        }

        @Override
        public Void visitMethodInvocation(MethodInvocationTree tree, Void none) {
            Element called = trees.getElement(new TreePath(getCurrentPath(), tree.getMethodSelect()));
            if (isOwn(called)) {
                calls.get(method).add(nameOf(called));
            } else if (called.getKind() != ElementKind.CONSTRUCTOR) {
                String name = called.getEnclosingElement() + "." + called.getSimpleName();
                rule(LIBRARY.contains(name), "a call of the rules", tree);
                calls.get(method).add(name);
            }
            return super.visitMethodInvocation(tree, none);
        }

        @Override
        public Void visitNewClass(NewClassTree tree, Void none) {
            Element made = trees.getElement(getCurrentPath());
            boolean isThrown = getCurrentPath().getParentPath().getLeaf().getKind() == Tree.Kind.THROW;
            if (isOwn(made)) {
                calls.get(method).add(nameOf(made));
            } else if (isThrown) {
                rule(EXCEPTIONS.contains(tree.getIdentifier().toString()), "an exception of the rules", tree);
                rule(tree.getArguments().size() == 1 && tree.getArguments().get(0).getKind() == Tree.Kind.STRING_LITERAL,
                        "a written text", tree);
                rule(!isConstructor, "no throw in a constructor", tree);
            } else {
                rule(made.getEnclosingElement().toString().equals("java.util.ArrayList") && isConstructor,
                        "lists alone, and in constructors", tree);
            }
            return super.visitNewClass(tree, none);
        }

        @Override
        public Void visitNewArray(NewArrayTree tree, Void none) {
            // A constant as its length, so that it is never a negative one.
            for (Tree length : tree.getDimensions()) {
                rule(length instanceof IdentifierTree && length.toString().matches("[A-Z_]+"), "a constant length", tree);
            }
            rule(isConstructor, "arrays in constructors alone", tree);
            return super.visitNewArray(tree, none);
        }

        @Override
        public Void visitTypeCast(TypeCastTree tree, Void none) {
            rule(Set.of("double", "float").contains(tree.getType().toString()), "casts of numbers alone", tree);
            return super.visitTypeCast(tree, none);
        }

        @Override
        public Void visitForLoop(ForLoopTree tree, Void none) {
            rule(tree.getCondition() != null && tree.getUpdate().size() == 1
                    && tree.getUpdate().get(0).toString().matches("\\w+\\+\\+;?"), "a counter against a bound", tree);
            return super.visitForLoop(tree, none);
        }

        @Override
        public Void visitMemberSelect(MemberSelectTree tree, Void none) {
            rule(!tree.toString().startsWith("System"), "no System", tree);
            return super.visitMemberSelect(tree, none);
        }

        private boolean isType(TypeMirror type) {
            String name = type.toString();
            return TYPES.contains(name) || name.matches("FormRiver\\.\\w+")
                    || name.matches("java\\.util\\.ArrayList<FormRiver\\.\\w+>");
        }

        private boolean isOwn(Element element) {
            return (element.getEnclosingElement() + ".").startsWith("FormRiver.");
        }

        private String nameOf(Element element) {
            return element.getEnclosingElement() + "." + ((ExecutableElement) element);
        }

        private long lines(Tree tree) {
            long begin = trees.getSourcePositions().getStartPosition(unit, tree);
            long end = trees.getSourcePositions().getEndPosition(unit, tree);
            return unit.getLineMap().getLineNumber(end) - unit.getLineMap().getLineNumber(begin) + 1;
        }

        private void rule(boolean holds, String want, Tree tree) {
            long at = holds ? 0 : trees.getSourcePositions().getStartPosition(unit, tree);
            Checks.check(holds, want, holds ? "" : "line " + unit.getLineMap().getLineNumber(at) + ": " + tree);
        }
    }
}
