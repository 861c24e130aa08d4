import com.sun.source.tree.AssertTree;
import com.sun.source.tree.BinaryTree;
import com.sun.source.tree.ClassTree;
import com.sun.source.tree.CompilationUnitTree;
import com.sun.source.tree.LambdaExpressionTree;
import com.sun.source.tree.MemberReferenceTree;
import com.sun.source.tree.MethodInvocationTree;
import com.sun.source.tree.MethodTree;
import com.sun.source.tree.NewClassTree;
import com.sun.source.tree.SynchronizedTree;
import com.sun.source.tree.ThrowTree;
import com.sun.source.tree.Tree;
import com.sun.source.tree.TryTree;
import com.sun.source.tree.VariableTree;
import com.sun.source.util.JavacTask;
import com.sun.source.util.TreePath;
import com.sun.source.util.TreePathScanner;
import com.sun.source.util.Trees;
import java.io.File;
import java.util.ArrayList;
import java.util.HashMap;
import java.util.LinkedHashMap;
import java.util.LinkedHashSet;
import java.util.List;
import java.util.Map;
import java.util.Set;
import javax.lang.model.element.Element;
import javax.lang.model.element.ElementKind;
import javax.lang.model.element.ExecutableElement;
import javax.lang.model.element.Modifier;
import javax.tools.JavaCompiler;
import javax.tools.JavaFileObject;
import javax.tools.StandardJavaFileManager;
import javax.tools.ToolProvider;

/** What of ../shared/LANGUAGE.md can be counted in the source: rules 1, 2, 5, 6, 8, 10, 11, 12. */
public final class LanguageTest {
    private static final Map<String, Set<String>> calls = new LinkedHashMap<>();
    private static final Map<String, Integer> depths = new HashMap<>();
    private static final Set<String> faceNames = new LinkedHashSet<>();
    private static final List<String> hiddenNames = new ArrayList<>();
    private static int classes = 0;

    public static void main(String[] args) throws Exception {
        JavaCompiler compiler = ToolProvider.getSystemJavaCompiler();
        StandardJavaFileManager files = compiler.getStandardFileManager(null, null, null);
        Iterable<? extends JavaFileObject> sources = files.getJavaFileObjects(new File("src/main/java/ShearHedge.java"));
        JavacTask task = (JavacTask) compiler.getTask(null, files, null, List.of("-proc:none"), null, sources);
        Iterable<? extends CompilationUnitTree> units = task.parse();
        task.analyze();
        Trees trees = Trees.instance(task);
        for (CompilationUnitTree unit : units) {
            Check.due("a package line", unit.getPackageName() == null, true);
            new Rules(trees, unit).scan(unit, null);
        }
        for (String name : hiddenNames) Check.due("no hidden method bears a public name: " + name, faceNames.contains(name), false);
        Check.due("some twelve classes: " + classes, classes <= 12, true);
        for (String method : calls.keySet()) {
            int depth = depthOf(method, new ArrayList<>());
            Check.due("calls at most eight deep: " + method + " " + depth, depth <= 8, true);
        }
        Check.end("LanguageTest");
    }

    /** How many calls stand open at once at the most, this one too. */
    private static int depthOf(String method, List<String> open) {
        if (open.contains(method)) {
            Check.due("no recursion: " + open + method, false, true);
            return 0;
        }
        Integer known = depths.get(method);
        if (known != null) return known;
        open.add(method);
        int most = 0;
        for (String called : calls.getOrDefault(method, Set.of())) most = Math.max(most, depthOf(called, open));
        open.remove(open.size() - 1);
        depths.put(method, most + 1);
        return most + 1;
    }

    private static final class Rules extends TreePathScanner<Void, Void> {
        private final Trees trees;
        private final CompilationUnitTree unit;
        private String method = "";

        Rules(Trees trees, CompilationUnitTree unit) {
            this.trees = trees;
            this.unit = unit;
        }

        private long line(long position) {
            return unit.getLineMap().getLineNumber(position);
        }

        private void banned(Tree tree) {
            long at = line(trees.getSourcePositions().getStartPosition(unit, tree));
            Check.due("nothing banned at line " + at, false, true);
        }

        @Override
        public Void visitClass(ClassTree tree, Void v) {
            classes++;
            Element element = trees.getElement(getCurrentPath());
            boolean outer = element.getSimpleName().contentEquals("ShearHedge");
            if (!outer) {
                Check.due("a static class inside: " + element, element.getModifiers().contains(Modifier.STATIC), true);
                Check.due("not public: " + element, element.getModifiers().contains(Modifier.PUBLIC), false);
            }
            int fields = 0;
            for (Tree member : tree.getMembers()) {
                if (member.getKind() == Tree.Kind.BLOCK) banned(member);
                if (!(member instanceof VariableTree)) continue;
                VariableTree field = (VariableTree) member;
                Set<Modifier> modifiers = field.getModifiers().getFlags();
                boolean constant = modifiers.contains(Modifier.STATIC);
                if (!constant) fields++;
                if (constant) Check.due("final: " + field.getName(), modifiers.contains(Modifier.FINAL), true);
                boolean inFace = field.getName().contentEquals("NONE");
                if (outer) Check.due("private: " + field.getName(), modifiers.contains(Modifier.PRIVATE), !inFace);
            }
            Check.due("some twenty fields: " + element + " " + fields, fields <= 20, true);
            return super.visitClass(tree, v);
        }

        @Override
        public Void visitMethod(MethodTree tree, Void v) {
            ExecutableElement element = (ExecutableElement) trees.getElement(getCurrentPath());
            boolean inFace = element.getModifiers().contains(Modifier.PUBLIC);
            String name = element.getSimpleName().toString();
            if (element.getKind() == ElementKind.METHOD) {
                if (inFace) faceNames.add(name);
                else hiddenNames.add(name);
                boolean outer = element.getEnclosingElement().getSimpleName().contentEquals("ShearHedge");
                if (outer && !inFace) {
                    Check.due("private: " + name, element.getModifiers().contains(Modifier.PRIVATE), true);
                }
            }
            Check.due("seven parameters: " + name, tree.getParameters().size() <= 7, true);
            long from = line(trees.getSourcePositions().getStartPosition(unit, tree));
            long to = line(trees.getSourcePositions().getEndPosition(unit, tree));
            Check.due("some sixty lines: " + name, from <= 0 || to - from < 60, true);
            String before = method;
            method = element.getEnclosingElement() + "." + element;
            calls.putIfAbsent(method, new LinkedHashSet<>());
            super.visitMethod(tree, v);
            method = before;
            return null;
        }

        @Override
        public Void visitMethodInvocation(MethodInvocationTree tree, Void v) {
            Element called = trees.getElement(new TreePath(getCurrentPath(), tree.getMethodSelect()));
            if (called != null && !method.isEmpty() && !called.getSimpleName().contentEquals("<init>")) {
                String of = called.getEnclosingElement().toString();
                calls.get(method).add(of + "." + called);
                if (!of.startsWith("ShearHedge")) Check.due("in the library that may be used: " + of + "." + called, isAllowed(of), true);
            }
            return super.visitMethodInvocation(tree, v);
        }

        private static boolean isAllowed(String of) {
            return List.of("java.lang.Math", "java.lang.Integer", "java.lang.Long", "java.lang.String", "java.lang.System").contains(of);
        }

        @Override
        public Void visitNewClass(NewClassTree tree, Void v) {
            if (tree.getClassBody() != null) banned(tree);
            // rows are made with the object, and no call makes an object
            if (!method.isEmpty()) Check.due("made in a constructor: " + method, method.startsWith("ShearHedge.ShearHedge("), true);
            return super.visitNewClass(tree, v);
        }

        @Override
        public Void visitBinary(BinaryTree tree, Void v) {
            javax.lang.model.type.TypeMirror type = trees.getTypeMirror(getCurrentPath());
            if (type != null && type.toString().equals("java.lang.String")) banned(tree);
            return super.visitBinary(tree, v);
        }

        @Override
        public Void visitThrow(ThrowTree tree, Void v) {
            banned(tree);
            return null;
        }

        @Override
        public Void visitTry(TryTree tree, Void v) {
            banned(tree);
            return null;
        }

        @Override
        public Void visitAssert(AssertTree tree, Void v) {
            banned(tree);
            return null;
        }

        @Override
        public Void visitSynchronized(SynchronizedTree tree, Void v) {
            banned(tree);
            return null;
        }

        @Override
        public Void visitLambdaExpression(LambdaExpressionTree tree, Void v) {
            banned(tree);
            return null;
        }

        @Override
        public Void visitMemberReference(MemberReferenceTree tree, Void v) {
            banned(tree);
            return null;
        }
    }
}
