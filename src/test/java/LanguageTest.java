import com.sun.source.tree.*;
import com.sun.source.util.JavacTask;
import com.sun.source.util.SourcePositions;
import com.sun.source.util.TreePath;
import com.sun.source.util.TreePathScanner;
import com.sun.source.util.Trees;
import java.io.File;
import java.io.IOException;
import java.util.ArrayList;
import java.util.HashMap;
import java.util.HashSet;
import java.util.LinkedHashMap;
import java.util.LinkedHashSet;
import java.util.List;
import java.util.Map;
import java.util.Set;
import javax.lang.model.element.Element;
import javax.lang.model.element.ElementKind;
import javax.lang.model.element.ExecutableElement;
import javax.lang.model.element.Modifier;
import javax.lang.model.element.TypeElement;
import javax.lang.model.element.VariableElement;
import javax.lang.model.type.TypeKind;
import javax.lang.model.type.TypeMirror;
import javax.tools.JavaCompiler;
import javax.tools.StandardJavaFileManager;
import javax.tools.ToolProvider;

/** The rules of LANGUAGE.md that the text of the program shows, looked at with the compiler's own tree. */
public final class LanguageTest {
    private static final String FILE = "src/main/java/ShareMonitor.java";
    private static final Set<String> THROWN = Set.of("IllegalStateException", "IllegalArgumentException",
        "IndexOutOfBoundsException", "ArithmeticException", "UnsupportedOperationException", "NoSuchElementException",
        "RuntimeException");
    // Of what rule 4 lists, the part that the program uses or is likely to.
    private static final Set<String> LIBRARY = Set.of("String.length", "String.charAt", "String.isEmpty", "String.equals",
        "Math.min", "Math.max", "Math.abs", "Integer.compare", "Integer.bitCount", "System.arraycopy", "Arrays.fill",
        "Arrays.copyOf", "Arrays.copyOfRange");
    private static final Set<TypeKind> NUMBERS = Set.of(TypeKind.INT, TypeKind.LONG, TypeKind.SHORT, TypeKind.BYTE,
        TypeKind.CHAR, TypeKind.BOOLEAN);
    // What the rules leave out, or allow only with care that a test can't see; the program needs none of it.
    private static final Set<Tree.Kind> LEFT_OUT = Set.of(Tree.Kind.LAMBDA_EXPRESSION, Tree.Kind.MEMBER_REFERENCE,
        Tree.Kind.TRY, Tree.Kind.SYNCHRONIZED, Tree.Kind.ASSERT, Tree.Kind.INSTANCE_OF, Tree.Kind.BINDING_PATTERN,
        Tree.Kind.PARAMETERIZED_TYPE, Tree.Kind.ANNOTATION);

    public static void main(String[] args) throws IOException {
        JavaCompiler compiler = ToolProvider.getSystemJavaCompiler();
        try (StandardJavaFileManager files = compiler.getStandardFileManager(null, null, null)) {
            JavacTask task = (JavacTask) compiler.getTask(null, files, null, List.of("-proc:none"), null,
                files.getJavaFileObjects(new File(FILE)));
            CompilationUnitTree unit = task.parse().iterator().next();
            task.analyze();
            Reading reading = new Reading(unit, Trees.instance(task));
            reading.scan(unit, null);
            lookAt(unit, reading);
        }
        Check.close("LanguageTest");
    }

    private static void lookAt(CompilationUnitTree unit, Reading reading) {
        Check.yes("no package", unit.getPackageName() == null);
        Check.same("classes outside one another", unit.getTypeDecls().size(), 1);
        Check.yes("rule 11: classes: " + reading.classes.size(), reading.classes.size() <= 12);
        Check.text("what breaks a rule", String.join("\n", reading.broken), "");
        Check.yes("methods were read", reading.calls.size() > 60);
        Check.yes("calls were read", reading.depthOf("tick()", new HashSet<>()) > 3);
        for (String method : reading.calls.keySet()) {
            Check.no("rule 8: no method comes to itself: " + method, reading.comesToItself(method));
        }
        for (String method : reading.calls.keySet()) {
            int depth = reading.depthOf(method, new HashSet<>());
            Check.yes("rule 11: calls go at most eight deep: " + method + " " + depth, depth <= 8);
        }
        for (String method : reading.hidden) {
            Check.no("rule 1: a name of the face: " + method, reading.face.contains(method));
        }
    }

    /** Goes through the tree and keeps what breaks a rule, and who calls whom. */
    private static final class Reading extends TreePathScanner<Void, Void> {
        final List<String> broken = new ArrayList<>();
        final Set<Element> classes = new LinkedHashSet<>();
        final Map<String, Set<String>> calls = new LinkedHashMap<>();
        final Set<String> face = new HashSet<>();
        final Set<String> hidden = new HashSet<>();
        private final CompilationUnitTree unit;
        private final Trees trees;
        private final SourcePositions places;
        private ExecutableElement method;

        Reading(CompilationUnitTree unit, Trees trees) {
            this.unit = unit;
            this.trees = trees;
            this.places = trees.getSourcePositions();
        }

        private void rule(int number, boolean kept, String what) {
            if (!kept) {
                broken.add("rule " + number + ": " + what);
            }
        }

        @Override
        public Void scan(Tree tree, Void none) {
            if (tree != null) {
                rule(2, !LEFT_OUT.contains(tree.getKind()), tree.getKind() + ": " + tree);
            }
            return super.scan(tree, none);
        }

        @Override
        public Void visitImport(ImportTree tree, Void none) {
            String name = tree.getQualifiedIdentifier().toString();
            rule(4, !tree.isStatic() && Set.of("java.util.Arrays", "java.util.ArrayList", "java.util.List").contains(name), name);
            return null;
        }

        @Override
        public Void visitClass(ClassTree tree, Void none) {
            TypeElement type = (TypeElement) trees.getElement(getCurrentPath());
            classes.add(type);
            boolean outer = type.getEnclosingElement().getKind() == ElementKind.PACKAGE;
            Set<Modifier> has = type.getModifiers();
            rule(1, outer ? has.contains(Modifier.PUBLIC) && has.contains(Modifier.FINAL)
                : has.contains(Modifier.STATIC) && !has.contains(Modifier.PUBLIC) && !has.contains(Modifier.PROTECTED), "" + type);
            rule(2, type.getNestingKind().isNested() != outer && !type.getSimpleName().isEmpty(), "local class " + type);
            int fields = 0;
            for (Element member : type.getEnclosedElements()) {
                boolean visible = !member.getModifiers().contains(Modifier.PRIVATE);
                if (member.getKind() == ElementKind.FIELD) {
                    lookAtField(type, (VariableElement) member);
                    fields += member.getModifiers().contains(Modifier.STATIC) ? 0 : 1;
                    rule(1, !outer || !visible || member.getSimpleName().contentEquals("NONE"), "visible field " + member);
                }
                rule(5, member.getKind() != ElementKind.STATIC_INIT, "static block in " + type);
                if (outer && visible && member.getKind() == ElementKind.METHOD) {
                    face.add(member.getSimpleName().toString());
                }
            }
            rule(11, fields <= 20, fields + " fields in " + type);
            return super.visitClass(tree, none);
        }

        private void lookAtField(TypeElement type, VariableElement field) {
            TypeMirror kind = field.asType();
            boolean simple = Set.of(TypeKind.INT, TypeKind.LONG, TypeKind.BOOLEAN).contains(kind.getKind()) || isText(kind);
            if (field.getModifiers().contains(Modifier.STATIC)) {
                boolean keptValues = type.getKind() == ElementKind.ENUM && kind.toString().equals(type + "[]");
                rule(5, field.getModifiers().contains(Modifier.FINAL), "a static field that is not final: " + field);
                rule(5, simple || kind.getKind() == TypeKind.CHAR || keptValues, "a static field of " + kind);
            } else if (type.getKind() == ElementKind.ENUM) {
                rule(2, simple, "an enum's field of " + kind);
            }
        }

        @Override
        public Void visitBlock(BlockTree tree, Void none) {
            boolean loose = getCurrentPath().getParentPath().getLeaf() instanceof ClassTree;
            rule(5, !loose, "a block that stands in a class");
            return super.visitBlock(tree, none);
        }

        @Override
        public Void visitVariable(VariableTree tree, Void none) {
            TypeMirror type = trees.getTypeMirror(getCurrentPath());
            rule(3, type == null || isAllowed(type, 0), tree + " has type " + type);
            return super.visitVariable(tree, none);
        }

        private boolean isAllowed(TypeMirror type, int dimensions) {
            if (type.getKind() == TypeKind.ARRAY) {
                return dimensions < 2 && isAllowed(((javax.lang.model.type.ArrayType) type).getComponentType(), dimensions + 1);
            }
            return NUMBERS.contains(type.getKind()) || dimensions < 2 && (isText(type) || isOwn(type.toString()));
        }

        private static boolean isText(TypeMirror type) {
            return type.toString().equals("java.lang.String");
        }

        private static boolean isOwn(String type) {
            return type.equals("ShareMonitor") || type.startsWith("ShareMonitor.");
        }

        @Override
        public Void visitMethod(MethodTree tree, Void none) {
            ExecutableElement before = method;
            method = (ExecutableElement) trees.getElement(getCurrentPath());
            String name = method.getSimpleName().toString();
            calls.computeIfAbsent(nameOf(method), key -> new LinkedHashSet<>());
            if (!method.getModifiers().contains(Modifier.PUBLIC)) {
                hidden.add(name);
            }
            rule(11, tree.getParameters().size() <= 7, "the parameters of " + name);
            if (places.getStartPosition(unit, tree) >= 0 && places.getEndPosition(unit, tree) >= 0) {
                LineMap lines = unit.getLineMap();
                long size = lines.getLineNumber(places.getEndPosition(unit, tree))
                    - lines.getLineNumber(places.getStartPosition(unit, tree)) + 1;
                rule(11, size <= 60, name + " has " + size + " lines");
            }
            rule(6, !Set.of("equals", "hashCode", "toString", "finalize").contains(name), "a method " + name);
            super.visitMethod(tree, none);
            method = before;
            return null;
        }

        private static String nameOf(ExecutableElement method) {
            String owner = method.getEnclosingElement().toString();
            return owner.equals("ShareMonitor") ? method.toString() : owner + "." + method;
        }

        private void keepCall(TreePath path) {
            ExecutableElement called = (ExecutableElement) trees.getElement(path);
            String owner = called.getEnclosingElement().toString();
            if (isOwn(owner)) {
                if (method != null) {
                    calls.get(nameOf(method)).add(nameOf(called));
                }
                rule(12, !called.getSimpleName().contentEquals("values") || method == null, "values() in a method");
                return;
            }
            String name = called.getEnclosingElement().getSimpleName() + "." + called.getSimpleName();
            boolean made = called.getKind() == ElementKind.CONSTRUCTOR;
            rule(4, made ? owner.equals("java.lang.Object") || owner.startsWith("java.lang.Enum")
                : LIBRARY.contains(name), "a call of " + name);
        }

        @Override
        public Void visitMethodInvocation(MethodInvocationTree tree, Void none) {
            keepCall(getCurrentPath());
            return super.visitMethodInvocation(tree, none);
        }

        @Override
        public Void visitNewClass(NewClassTree tree, Void none) {
            boolean thrown = getCurrentPath().getParentPath().getLeaf() instanceof ThrowTree;
            if (!thrown) {
                keepCall(getCurrentPath());
                rule(12, isMakingTime(), "an object that a call makes: " + tree);
            }
            return super.visitNewClass(tree, none);
        }

        @Override
        public Void visitNewArray(NewArrayTree tree, Void none) {
            rule(12, isMakingTime(), "an array that a call makes: " + tree);
            return super.visitNewArray(tree, none);
        }

        private boolean isMakingTime() {
            return method == null || method.getKind() == ElementKind.CONSTRUCTOR;
        }

        @Override
        public Void visitThrow(ThrowTree tree, Void none) {
            rule(6, method != null && method.getKind() == ElementKind.METHOD, "a throw in a constructor");
            boolean known = tree.getExpression() instanceof NewClassTree made && THROWN.contains(made.getIdentifier().toString())
                && made.getClassBody() == null && made.getArguments().size() <= 1
                && made.getArguments().stream().allMatch(a -> a.getKind() == Tree.Kind.STRING_LITERAL);
            rule(6, known, "" + tree);
            boolean named = known && method != null && method.getThrownTypes().stream().anyMatch(
                t -> t.toString().equals("java.lang." + ((NewClassTree) tree.getExpression()).getIdentifier()));
            rule(6, named, nameOf(method) + " does not name what it throws: " + tree);
            return super.visitThrow(tree, none);
        }

        @Override
        public Void visitTypeCast(TypeCastTree tree, Void none) {
            rule(6, tree.getType() instanceof PrimitiveTypeTree, "a cast of an object: " + tree);
            return super.visitTypeCast(tree, none);
        }

        @Override
        public Void visitBinary(BinaryTree tree, Void none) {
            TypeMirror left = trees.getTypeMirror(new TreePath(getCurrentPath(), tree.getLeftOperand()));
            TypeMirror right = trees.getTypeMirror(new TreePath(getCurrentPath(), tree.getRightOperand()));
            boolean text = left != null && isText(left) || right != null && isText(right);
            rule(10, !text, "texts joined or compared: " + tree);
            return super.visitBinary(tree, none);
        }

        @Override
        public Void visitForLoop(ForLoopTree tree, Void none) {
            rule(9, tree.getCondition() != null, "a loop without an end: " + tree);
            return super.visitForLoop(tree, none);
        }

        @Override
        public Void visitWhileLoop(WhileLoopTree tree, Void none) {
            boolean bound = tree.getCondition() instanceof ParenthesizedTree inside
                && inside.getExpression().getKind() != Tree.Kind.BOOLEAN_LITERAL;
            rule(9, bound, "a loop without an end: " + tree);
            return super.visitWhileLoop(tree, none);
        }

        /** Calls that stand open at once, the method's own one counted; one met twice on the way ends it. */
        int depthOf(String from, Set<String> open) {
            int deepest = 0;
            if (calls.containsKey(from) && open.add(from)) {
                for (String to : calls.get(from)) {
                    deepest = Math.max(deepest, depthOf(to, open));
                }
                open.remove(from);
            }
            return deepest + 1;
        }

        boolean comesToItself(String from) {
            List<String> next = new ArrayList<>(calls.get(from));
            Map<String, Boolean> met = new HashMap<>();
            while (!next.isEmpty()) {
                String to = next.remove(next.size() - 1);
                if (to.equals(from)) {
                    return true;
                }
                if (met.put(to, true) == null && calls.containsKey(to)) {
                    next.addAll(calls.get(to));
                }
            }
            return false;
        }
    }
}
