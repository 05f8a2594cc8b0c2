import com.sun.source.tree.BinaryTree;
import com.sun.source.tree.BlockTree;
import com.sun.source.tree.CatchTree;
import com.sun.source.tree.ClassTree;
import com.sun.source.tree.CompilationUnitTree;
import com.sun.source.tree.CompoundAssignmentTree;
import com.sun.source.tree.ExpressionTree;
import com.sun.source.tree.MethodInvocationTree;
import com.sun.source.tree.MethodTree;
import com.sun.source.tree.NewArrayTree;
import com.sun.source.tree.NewClassTree;
import com.sun.source.tree.ThrowTree;
import com.sun.source.tree.Tree;
import com.sun.source.tree.Tree.Kind;
import com.sun.source.tree.TryTree;
import com.sun.source.tree.VariableTree;
import com.sun.source.util.JavacTask;
import com.sun.source.util.TreePath;
import com.sun.source.util.TreePathScanner;
import com.sun.source.util.Trees;
import java.io.IOException;
import java.net.URI;
import java.util.ArrayList;
import java.util.HashMap;
import java.util.HashSet;
import java.util.List;
import java.util.Map;
import java.util.Set;
import javax.lang.model.element.Element;
import javax.lang.model.element.ExecutableElement;
import javax.lang.model.element.Modifier;
import javax.lang.model.element.TypeElement;
import javax.lang.model.element.VariableElement;
import javax.lang.model.type.TypeKind;
import javax.lang.model.type.TypeMirror;
import javax.tools.JavaCompiler;
import javax.tools.SimpleJavaFileObject;
import javax.tools.ToolProvider;

/** Finds what breaks LANGUAGE.md in a text of the class; each fault begins with its rule's number. */
final class Language extends TreePathScanner<Void, Void> {
    private static final int MOST_PARAMETERS = 7;
    private static final int MOST_LINES = 60;
    private static final int MOST_DEEP = 8;
    private static final int MOST_CLASSES = 12;
    private static final int MOST_FIELDS = 20;

    private static final Set<String> EXCEPTIONS = Set.of("IllegalStateException", "IllegalArgumentException",
            "IndexOutOfBoundsException", "ArithmeticException", "UnsupportedOperationException",
            "NoSuchElementException", "RuntimeException");
    private static final Set<String> CAUGHT = Set.of("IllegalStateException", "IllegalArgumentException",
            "UnsupportedOperationException", "NoSuchElementException");
    private static final Map<String, Set<String>> CALLS = Map.of(
            "java.lang.String", Set.of("length", "charAt", "isEmpty", "equals", "indexOf", "substring", "toCharArray"),
            "java.lang.StringBuilder", Set.of("append", "charAt", "setCharAt", "setLength", "deleteCharAt",
                    "reverse", "length", "toString"),
            "java.util.ArrayList", Set.of("add", "get", "set", "remove", "size", "isEmpty", "clear"),
            "java.util.List", Set.of("add", "get", "set", "remove", "size", "isEmpty", "clear", "of"),
            "java.lang.Math", Set.of("abs", "max", "min", "floorDiv", "floorMod"),
            "java.lang.Integer", Set.of("compare", "max", "min", "bitCount", "signum"),
            "java.lang.Long", Set.of("compare", "max", "min", "bitCount", "signum"),
            "java.util.Arrays", Set.of("copyOf", "copyOfRange", "fill"),
            "java.lang.System", Set.of("arraycopy"),
            "java.lang.Object", Set.of("<init>"));
    private static final Set<String> MADE = Set.of("java.util.ArrayList", "java.lang.StringBuilder", "java.lang.String");
    /** What may make objects: any other method may be called again and again, and the room is for all calls. */
    private static final Set<String> MAKERS = Set.of("<init>", "addWand", "addChild");
    private static final Map<Kind, String> FORBIDDEN = Map.of(
            Kind.LAMBDA_EXPRESSION, "2", Kind.MEMBER_REFERENCE, "2", Kind.ANNOTATION_TYPE, "2",
            Kind.INTERSECTION_TYPE, "3", Kind.SYNCHRONIZED, "6", Kind.ASSERT, "6", Kind.UNION_TYPE, "6");

    private final List<String> faults = new ArrayList<>();
    private final Map<Element, Set<Element>> calls = new HashMap<>();
    private final CompilationUnitTree unit;
    private final Trees trees;
    private int classes = 0;

    private Language(CompilationUnitTree unit, Trees trees) {
        this.unit = unit;
        this.trees = trees;
    }

    static List<String> faultsIn(String source) {
        JavaCompiler compiler = ToolProvider.getSystemJavaCompiler();
        List<String> errors = new ArrayList<>();
        JavacTask task = (JavacTask) compiler.getTask(null, null, told -> {
            if (told.getKind() == javax.tools.Diagnostic.Kind.ERROR) {
                errors.add("0 " + told.getMessage(null));
            }
        }, List.of("-proc:none"), null, List.of(new Text(source)));
        try {
            CompilationUnitTree unit = task.parse().iterator().next();
            task.analyze();
            Language language = new Language(unit, Trees.instance(task));
            language.scan(unit, null);
            language.lookAtCalls();
            errors.addAll(language.faults);
        } catch (IOException e) {
            errors.add("0 " + e);
        }
        return errors;
    }

    private static final class Text extends SimpleJavaFileObject {
        private final String text;

        private Text(String text) {
            super(URI.create("string:///FairyDust.java"), Kind.SOURCE);
            this.text = text;
        }

        @Override
        public CharSequence getCharContent(boolean isLenient) {
            return text;
        }
    }

    @Override
    public Void scan(Tree tree, Void none) {
        if (tree != null && FORBIDDEN.containsKey(tree.getKind())) {
            faults.add(FORBIDDEN.get(tree.getKind()) + " " + tree.getKind());
        }
        return super.scan(tree, none);
    }

    // ---- what stands in a class

    @Override
    public Void visitClass(ClassTree tree, Void none) {
        classes++;
        int fields = 0;
        for (Tree member : tree.getMembers()) {
            if (member instanceof BlockTree && ((BlockTree) member).isStatic()) {
                faults.add("5 static block");
            }
            if (member instanceof VariableTree && lookAtField((VariableTree) member)) {
                fields++;
            }
        }
        if (fields > MOST_FIELDS) {
            faults.add("11 " + tree.getSimpleName() + " has " + fields + " fields");
        }
        return super.visitClass(tree, none);
    }

    /** Whether it counts as one: constants do not. */
    private boolean lookAtField(VariableTree field) {
        Set<Modifier> modifiers = field.getModifiers().getFlags();
        boolean isStatic = modifiers.contains(Modifier.STATIC);
        if (isStatic && !modifiers.contains(Modifier.FINAL)) {
            faults.add("5 " + field.getName() + " is static and not final");
        }
        return !isStatic;
    }

    @Override
    public Void visitMethod(MethodTree tree, Void none) {
        String name = tree.getName().toString();
        calls.putIfAbsent(element(getCurrentPath()), new HashSet<>());
        if (Set.of("toString", "equals", "hashCode").contains(name)) {
            faults.add("6 " + name + " of its own");
        }
        if (tree.getParameters().size() > MOST_PARAMETERS) {
            faults.add("11 " + name + " has " + tree.getParameters().size() + " parameters");
        }
        long lines = line(trees.getSourcePositions().getEndPosition(unit, tree))
                - line(trees.getSourcePositions().getStartPosition(unit, tree)) + 1;
        if (lines > MOST_LINES) {
            faults.add("11 " + name + " has " + lines + " lines");
        }
        return super.visitMethod(tree, none);
    }

    private long line(long position) {
        return unit.getLineMap().getLineNumber(Math.max(0, position));
    }

    // ---- exceptions

    @Override
    public Void visitThrow(ThrowTree tree, Void none) {
        if (isInConstructor()) {
            faults.add("6 throw in a constructor");
        }
        ExpressionTree thrown = tree.getExpression();
        if (!(thrown instanceof NewClassTree)) {
            faults.add("6 throw of what is not made there");
            return super.visitThrow(tree, none);
        }
        NewClassTree made = (NewClassTree) thrown;
        if (!EXCEPTIONS.contains(made.getIdentifier().toString())) {
            faults.add("6 throw new " + made.getIdentifier());
        }
        for (ExpressionTree text : made.getArguments()) {
            if (text.getKind() != Kind.STRING_LITERAL) {
                faults.add("6 throw without a written text");
            }
        }
        return super.visitThrow(tree, none);
    }

    @Override
    public Void visitTry(TryTree tree, Void none) {
        if (tree.getFinallyBlock() != null) {
            faults.add("6 TRY with finally");
        }
        if (!tree.getResources().isEmpty()) {
            faults.add("6 TRY with resources");
        }
        return super.visitTry(tree, none);
    }

    /** What the machine throws is not to be caught, by its own name or by a class above it. */
    @Override
    public Void visitCatch(CatchTree tree, Void none) {
        String type = tree.getParameter().getType().toString();
        if (!CAUGHT.contains(type)) {
            faults.add("6 catch of " + type);
        }
        return super.visitCatch(tree, none);
    }

    // ---- what is computed

    @Override
    public Void visitBinary(BinaryTree tree, Void none) {
        if (tree.getKind() == Kind.PLUS && isText(type(getCurrentPath()))) {
            faults.add("10 PLUS of texts");
        }
        if (tree.getKind() == Kind.REMAINDER && isDouble(type(getCurrentPath()))) {
            faults.add("3 double %");
        }
        return super.visitBinary(tree, none);
    }

    @Override
    public Void visitCompoundAssignment(CompoundAssignmentTree tree, Void none) {
        if (isText(type(getCurrentPath()))) {
            faults.add("10 " + tree.getKind() + " of texts");
        }
        return super.visitCompoundAssignment(tree, none);
    }

    private static boolean isText(TypeMirror type) {
        return type != null && type.toString().equals("java.lang.String");
    }

    private static boolean isDouble(TypeMirror type) {
        return type != null && (type.getKind() == TypeKind.DOUBLE || type.getKind() == TypeKind.FLOAT);
    }

    // ---- calls, and what is made

    @Override
    public Void visitMethodInvocation(MethodInvocationTree tree, Void none) {
        Element called = element(new TreePath(getCurrentPath(), tree.getMethodSelect()));
        if (called instanceof ExecutableElement) {
            lookAtCall((ExecutableElement) called);
        }
        return super.visitMethodInvocation(tree, none);
    }

    private void lookAtCall(ExecutableElement called) {
        String owner = ((TypeElement) called.getEnclosingElement()).getQualifiedName().toString();
        String name = called.getSimpleName().toString();
        if (isOwn(owner)) {
            calls.computeIfAbsent(caller(), made -> new HashSet<>()).add(called);
            return;
        }
        if (owner.equals("java.lang.System") && !name.equals("arraycopy")) {
            faults.add("13 " + owner + "." + name);
        } else if (!CALLS.getOrDefault(owner, Set.of()).contains(name)) {
            faults.add("4 " + owner + "." + name);
        }
        for (VariableElement parameter : called.getParameters()) {
            if (isDouble(parameter.asType())) {
                faults.add("3 " + owner + "." + name + " of " + parameter.asType());
            }
        }
    }

    @Override
    public Void visitNewClass(NewClassTree tree, Void none) {
        boolean isThrown = getCurrentPath().getParentPath().getLeaf() instanceof ThrowTree;
        Element constructor = element(getCurrentPath());
        if (!isThrown && constructor != null) {
            String made = ((TypeElement) constructor.getEnclosingElement()).getQualifiedName().toString();
            if (isOwn(made)) {
                calls.computeIfAbsent(caller(), from -> new HashSet<>()).add(constructor);
            } else if (!MADE.contains(made)) {
                faults.add("4 new " + made);
            }
            lookAtMaker("new " + made);
        }
        return super.visitNewClass(tree, none);
    }

    @Override
    public Void visitNewArray(NewArrayTree tree, Void none) {
        lookAtMaker("new array");
        return super.visitNewArray(tree, none);
    }

    private void lookAtMaker(String made) {
        Element caller = caller();
        if (caller != null && !MAKERS.contains(caller.getSimpleName().toString())) {
            faults.add("12 " + made + " in " + caller.getSimpleName());
        }
    }

    private static boolean isOwn(String type) {
        return type.equals("FairyDust") || type.startsWith("FairyDust.");
    }

    private void lookAtCalls() {
        if (classes > MOST_CLASSES) {
            faults.add("11 " + classes + " classes");
        }
        for (Element method : calls.keySet()) {
            int depth = depth(method, new ArrayList<>());
            if (depth > MOST_DEEP) {
                faults.add("11 " + method.getSimpleName() + " goes " + depth + " deep");
            }
        }
    }

    private int depth(Element method, List<Element> open) {
        if (open.contains(method)) {
            faults.add("8 " + method.getSimpleName() + " calls itself");
            return 0;
        }
        open.add(method);
        int deepest = 0;
        for (Element called : calls.getOrDefault(method, Set.of())) {
            deepest = Math.max(deepest, depth(called, open));
        }
        open.remove(method);
        return deepest + 1;
    }

    // ---- where it stands

    private boolean isInConstructor() {
        Element caller = caller();
        return caller != null && caller.getSimpleName().contentEquals("<init>");
    }

    /** The method that the scan is in; null in a field or a static block. */
    private Element caller() {
        for (TreePath path = getCurrentPath(); path != null; path = path.getParentPath()) {
            if (path.getLeaf() instanceof MethodTree) {
                return element(path);
            }
        }
        return null;
    }

    private Element element(TreePath path) {
        return trees.getElement(path);
    }

    private TypeMirror type(TreePath path) {
        return trees.getTypeMirror(path);
    }
}
