import com.sun.source.tree.AssertTree;
import com.sun.source.tree.BinaryTree;
import com.sun.source.tree.CatchTree;
import com.sun.source.tree.ClassTree;
import com.sun.source.tree.CompilationUnitTree;
import com.sun.source.tree.LambdaExpressionTree;
import com.sun.source.tree.MemberReferenceTree;
import com.sun.source.tree.MemberSelectTree;
import com.sun.source.tree.MethodInvocationTree;
import com.sun.source.tree.MethodTree;
import com.sun.source.tree.NewClassTree;
import com.sun.source.tree.SynchronizedTree;
import com.sun.source.tree.ThrowTree;
import com.sun.source.tree.Tree;
import com.sun.source.tree.TryTree;
import com.sun.source.tree.TypeCastTree;
import com.sun.source.tree.VariableTree;
import com.sun.source.util.JavacTask;
import com.sun.source.util.TreePathScanner;
import com.sun.source.util.Trees;
import java.io.File;
import java.util.HashMap;
import java.util.HashSet;
import java.util.LinkedHashSet;
import java.util.List;
import java.util.Map;
import java.util.Set;
import java.util.TreeSet;
import javax.lang.model.element.Element;
import javax.lang.model.element.ElementKind;
import javax.lang.model.element.ExecutableElement;
import javax.lang.model.element.Modifier;
import javax.lang.model.element.TypeElement;
import javax.lang.model.element.VariableElement;
import javax.lang.model.type.ArrayType;
import javax.lang.model.type.TypeKind;
import javax.lang.model.type.TypeMirror;
import javax.tools.JavaCompiler;
import javax.tools.StandardJavaFileManager;
import javax.tools.ToolProvider;

/** Whether the source keeps to the rules of LANGUAGE.md that a program can look at. */
public final class LanguageTest extends TreePathScanner<Void, Void> {
    private static final Checker C = new Checker("LanguageTest");
    private static final Set<String> FACE = Set.of(
        "int feed(int,int,int,int,int)", "int net(int)", "int orders(int)", "int lay(int,int,int)", "int length(int,int)",
        "int close(int)", "int open(int)", "int origin(int)", "int count(int)", "long road(int,int)", "long change(int,int)",
        "long town(int,int)", "int way(int,int)", "int needed(int,int)", "int touched(int)", "long without(int,int)",
        "long between(int,int)", "long free(int,int)", "long hops(int,int)", "long meet(int,int)", "long through(int,int)",
        "long shortcut(int,int)", "long mean(int)", "long round(int,int)", "int watch(int,int)", "boolean forget(int)",
        "long event(int,int)", "int ifLength(int,int)", "long drawn(int,int)", "boolean seed(int)", "int keep()",
        "boolean undo()", "int check(int)");
    private static final Set<String> LIBRARY = Set.of("java.lang.String.length", "java.lang.String.charAt",
        "java.util.Arrays.fill", "java.lang.System.arraycopy", "java.lang.Math.max", "java.lang.Math.min",
        "java.lang.Math.abs", "java.lang.Integer.bitCount", "java.lang.Long.bitCount");
    private static final int DEEPEST = 8;

    private final Trees trees;
    private final CompilationUnitTree unit;
    private final Map<Element, Set<Element>> calls = new HashMap<>();
    private final Set<String> publicNames = new HashSet<>();

    private LanguageTest(Trees trees, CompilationUnitTree unit) {
        this.trees = trees;
        this.unit = unit;
    }

    public static void main(String[] args) throws Exception {
        File source = new File(System.getProperty("keptways.source", "src/main/java/KeptWays.java"));
        JavaCompiler compiler = ToolProvider.getSystemJavaCompiler();
        try (StandardJavaFileManager files = compiler.getStandardFileManager(null, null, null)) {
            JavacTask task = (JavacTask) compiler.getTask(null, files, null, List.of("-proc:none"), null, files.getJavaFileObjects(source));
            CompilationUnitTree unit = task.parse().iterator().next();
            task.analyze();
            LanguageTest test = new LanguageTest(Trees.instance(task), unit);
            C.holds("no package", unit.getPackageName() == null);
            test.face();
            test.scan(unit, null);
            test.depths();
        }
        C.end();
    }

    private void wrong(String rule, Tree tree) {
        long line = unit.getLineMap().getLineNumber(trees.getSourcePositions().getStartPosition(unit, tree));
        C.holds(rule + ", line " + line, false);
    }

    private void face() {
        Set<String> found = new TreeSet<>();
        for (java.lang.reflect.Method m : KeptWays.class.getDeclaredMethods()) {
            int is = m.getModifiers();
            if (java.lang.reflect.Modifier.isPublic(is)) {
                StringBuilder text = new StringBuilder(m.getReturnType().getName() + " " + m.getName() + "(");
                for (Class<?> p : m.getParameterTypes()) {
                    text.append(text.charAt(text.length() - 1) == '(' ? "" : ",").append(p.getName());
                }
                found.add(text + ")");
                publicNames.add(m.getName());
            } else {
                C.holds("rule 1: private is " + m, java.lang.reflect.Modifier.isPrivate(is) || m.isSynthetic());
            }
        }
        C.holds("rule 1: the face is the document's", found.equals(new TreeSet<>(FACE)));
        for (java.lang.reflect.Field f : KeptWays.class.getDeclaredFields()) {
            boolean told = f.getName().equals("NONE") || f.getName().equals("NO_LENGTH");
            C.due("rule 1: who sees " + f, java.lang.reflect.Modifier.isPublic(f.getModifiers()), told);
            C.due("rule 1: private is " + f, java.lang.reflect.Modifier.isPrivate(f.getModifiers()), !told);
        }
        int is = KeptWays.class.getModifiers();
        C.holds("rule 1: public and final", java.lang.reflect.Modifier.isPublic(is) && java.lang.reflect.Modifier.isFinal(is));
        C.due("rule 1: one constructor", KeptWays.class.getConstructors().length, 1);
        C.holds("rule 11: at most twelve classes", KeptWays.class.getDeclaredClasses().length < 12);
    }

    @Override
    public Void visitClass(ClassTree tree, Void v) {
        TypeElement type = (TypeElement) trees.getElement(getCurrentPath());
        if (type.getNestingKind().isNested()) {
            C.holds("rule 2: static is " + type, type.getModifiers().contains(Modifier.STATIC));
            C.holds("rule 2: a member is " + type, type.getNestingKind() == javax.lang.model.element.NestingKind.MEMBER);
        }
        int fields = 0;
        for (Element e : type.getEnclosedElements()) {
            if (e.getKind() == ElementKind.FIELD) {
                boolean isStatic = e.getModifiers().contains(Modifier.STATIC);
                fields += isStatic ? 0 : 1;
                C.holds("rule 5: a constant is " + e, !isStatic || ((VariableElement) e).getConstantValue() != null);
            }
            C.holds("rule 5: no static block in " + type, e.getKind() != ElementKind.STATIC_INIT);
        }
        C.holds("rule 11: some twenty fields in " + type, fields <= 20);
        return super.visitClass(tree, v);
    }

    @Override
    public Void visitMethod(MethodTree tree, Void v) {
        ExecutableElement method = (ExecutableElement) trees.getElement(getCurrentPath());
        boolean isFace = method.getModifiers().contains(Modifier.PUBLIC);
        String name = tree.getName().toString();
        C.holds("rule 1: no other bears the name of " + name, isFace || !publicNames.contains(name));
        C.holds("rule 11: seven parameters of " + name, tree.getParameters().size() <= 7);
        C.holds("rule 6: nothing thrown by " + name, tree.getThrows().isEmpty());
        long from = unit.getLineMap().getLineNumber(trees.getSourcePositions().getStartPosition(unit, tree));
        long to = unit.getLineMap().getLineNumber(trees.getSourcePositions().getEndPosition(unit, tree));
        C.holds("rule 11: some sixty lines of " + name, to - from < 60);
        calls.putIfAbsent(method, new LinkedHashSet<>());
        return super.visitMethod(tree, v);
    }

    @Override
    public Void visitMethodInvocation(MethodInvocationTree tree, Void v) {
        called((ExecutableElement) trees.getElement(getCurrentPath()), tree);
        return super.visitMethodInvocation(tree, v);
    }

    @Override
    public Void visitNewClass(NewClassTree tree, Void v) {
        if (tree.getClassBody() != null) {
            wrong("rule 2: a class without a name", tree);
        }
        called((ExecutableElement) trees.getElement(getCurrentPath()), tree);
        return super.visitNewClass(tree, v);
    }

    private void called(ExecutableElement method, Tree tree) {
        String owner = method.getEnclosingElement().toString();
        if (!owner.startsWith("KeptWays") && method.getKind() != ElementKind.CONSTRUCTOR
            && !LIBRARY.contains(owner + "." + method.getSimpleName())) {
            wrong("rule 4: " + owner + "." + method, tree);
        }
        Element caller = enclosing();
        if (caller != null) {
            calls.computeIfAbsent(caller, k -> new LinkedHashSet<>()).add(method);
        }
    }

    private Element enclosing() {
        for (var path = getCurrentPath(); path != null; path = path.getParentPath()) {
            if (path.getLeaf() instanceof MethodTree) {
                return trees.getElement(path);
            }
        }
        return null;
    }

    /** A constant of the library does not stand in rule 4, no more than a method that is not told there. */
    @Override
    public Void visitMemberSelect(MemberSelectTree tree, Void v) {
        Element chosen = trees.getElement(getCurrentPath());
        if (chosen != null && chosen.getKind() == ElementKind.FIELD) {
            TypeMirror of = trees.getTypeMirror(new com.sun.source.util.TreePath(getCurrentPath(), tree.getExpression()));
            if (of.getKind() != TypeKind.ARRAY && !of.toString().startsWith("KeptWays")) {
                wrong("rule 4: " + tree, tree);
            }
        }
        return super.visitMemberSelect(tree, v);
    }

    @Override
    public Void visitVariable(VariableTree tree, Void v) {
        TypeMirror type = trees.getTypeMirror(getCurrentPath());
        TypeMirror each = type instanceof ArrayType row ? row.getComponentType() : type;
        boolean isOwn = each.toString().startsWith("KeptWays");
        boolean isText = type.toString().equals("java.lang.String");
        C.holds("rule 3: " + type + " " + tree.getName(), each.getKind().isPrimitive() || isOwn || isText);
        return super.visitVariable(tree, v);
    }

    @Override
    public Void visitTypeCast(TypeCastTree tree, Void v) {
        C.holds("rule 6: a cast among numbers is " + tree, trees.getTypeMirror(getCurrentPath()).getKind().isPrimitive());
        return super.visitTypeCast(tree, v);
    }

    private void depths() {
        for (Element method : calls.keySet()) {
            if (calls.get(method).contains(method)) {
                boolean isGuarded = ((ExecutableElement) method).getParameters().stream().anyMatch(p -> p.getSimpleName().contentEquals("depth"));
                C.holds("rule 8: private, with its depth, is " + method, isGuarded && method.getModifiers().contains(Modifier.PRIVATE));
            }
            if (method.getModifiers().contains(Modifier.PUBLIC)) {
                int deep = depth(method, 0);
                C.holds("rule 11: at most eight deep is " + method + ": " + deep, deep <= DEEPEST);
            }
        }
    }

    /** A method that calls itself counts once; among several no ring of calls is allowed here. */
    private int depth(Element method, int open) {
        if (open > 40) {
            return 100;
        }
        int deepest = 0;
        for (Element next : calls.getOrDefault(method, Set.of())) {
            if (next != method) {
                deepest = Math.max(deepest, depth(next, open + 1));
            }
        }
        return deepest + 1;
    }

    @Override
    public Void visitThrow(ThrowTree tree, Void v) {
        wrong("rule 6: throw", tree);
        return null;
    }

    @Override
    public Void visitTry(TryTree tree, Void v) {
        wrong("rule 6: try", tree);
        return null;
    }

    @Override
    public Void visitCatch(CatchTree tree, Void v) {
        wrong("rule 6: catch", tree);
        return null;
    }

    @Override
    public Void visitSynchronized(SynchronizedTree tree, Void v) {
        wrong("rule 6: synchronized", tree);
        return null;
    }

    @Override
    public Void visitAssert(AssertTree tree, Void v) {
        wrong("rule 6: assert", tree);
        return null;
    }

    @Override
    public Void visitLambdaExpression(LambdaExpressionTree tree, Void v) {
        wrong("rule 2: a lambda", tree);
        return null;
    }

    @Override
    public Void visitMemberReference(MemberReferenceTree tree, Void v) {
        wrong("rule 2: a method reference", tree);
        return null;
    }

    @Override
    public Void visitBinary(BinaryTree tree, Void v) {
        var type = trees.getTypeMirror(getCurrentPath());
        if (tree.getKind() == Tree.Kind.PLUS && type.toString().equals("java.lang.String")) {
            wrong("rule 10: texts joined by +", tree);
        }
        return super.visitBinary(tree, v);
    }
}
