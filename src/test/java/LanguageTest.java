import com.sun.source.tree.AssertTree;
import com.sun.source.tree.BinaryTree;
import com.sun.source.tree.BlockTree;
import com.sun.source.tree.ClassTree;
import com.sun.source.tree.CompilationUnitTree;
import com.sun.source.tree.CompoundAssignmentTree;
import com.sun.source.tree.DoWhileLoopTree;
import com.sun.source.tree.EnhancedForLoopTree;
import com.sun.source.tree.ExpressionTree;
import com.sun.source.tree.ForLoopTree;
import com.sun.source.tree.ImportTree;
import com.sun.source.tree.InstanceOfTree;
import com.sun.source.tree.LambdaExpressionTree;
import com.sun.source.tree.MemberReferenceTree;
import com.sun.source.tree.MethodInvocationTree;
import com.sun.source.tree.MethodTree;
import com.sun.source.tree.NewArrayTree;
import com.sun.source.tree.NewClassTree;
import com.sun.source.tree.SynchronizedTree;
import com.sun.source.tree.ThrowTree;
import com.sun.source.tree.TryTree;
import com.sun.source.tree.TypeCastTree;
import com.sun.source.tree.VariableTree;
import com.sun.source.tree.WhileLoopTree;
import com.sun.source.util.JavacTask;
import com.sun.source.util.TreePathScanner;
import com.sun.source.util.Trees;
import java.io.File;
import java.util.ArrayList;
import java.util.HashMap;
import java.util.HashSet;
import java.util.List;
import java.util.Map;
import java.util.Set;
import java.util.TreeSet;
import javax.lang.model.element.Element;
import javax.lang.model.element.ElementKind;
import javax.lang.model.element.ExecutableElement;
import javax.lang.model.element.Modifier;
import javax.tools.JavaCompiler;
import javax.tools.StandardJavaFileManager;
import javax.tools.ToolProvider;

/** Rules of LANGUAGE.md that can be read off the source: the face, what is banned, how deep calls go, how long methods are. */
public final class LanguageTest {
    private static final String[] FACE = {"FairWheel()", "feed(int,int,int,int,int)", "end(int)", "kernel()", "fault(int)",
        "run(int)", "chosen(int,int)", "task(int,int)", "place(int)", "holder(int)", "waits(int)", "ring(int,int)",
        "share(int,int)", "kill(int)", "wake(int)", "soon(int)", "load(int)", "risk(int)", "enough(int,int)",
        "tell(int,int,int)", "hush()", "check()", "sight(int,int,boolean)", "untell(int)", "later(int)", "fits(int,int)",
        "image(int)", "back(int)", "about(int)"};
    private static final Set<String> LIBRARY = Set.of("charAt", "min", "max", "arraycopy");

    public static void main(String[] args) throws Exception {
        File source = new File("src/main/java/FairWheel.java");
        JavaCompiler compiler = ToolProvider.getSystemJavaCompiler();
        StandardJavaFileManager files = compiler.getStandardFileManager(null, null, null);
        JavacTask task = (JavacTask) compiler.getTask(null, files, null, List.of("-proc:none"), null,
                files.getJavaFileObjects(source));
        CompilationUnitTree unit = task.parse().iterator().next();
        task.analyze();
        Reading reading = new Reading(Trees.instance(task), unit);
        reading.scan(unit, null);
        reading.judge();
        files.close();
        Due.finish("LanguageTest");
    }

    private static void refuse(String why) {
        System.out.println(why);
        Due.due(why, 1, 0);
    }

    private static final class Reading extends TreePathScanner<Void, Void> {
        private final Trees trees;
        private final CompilationUnitTree unit;
        private final Map<ExecutableElement, Set<ExecutableElement>> calls = new HashMap<>();
        private final Set<String> publics = new TreeSet<>();
        private final List<ExecutableElement> privates = new ArrayList<>();
        private ExecutableElement inside;
        private int classes = 0;

        Reading(Trees trees, CompilationUnitTree unit) {
            this.trees = trees;
            this.unit = unit;
        }

        private long line(long position) {
            return unit.getLineMap().getLineNumber(position);
        }

        @Override
        public Void visitImport(ImportTree tree, Void p) {
            refuse("an import: " + tree);
            return null;
        }

        @Override
        public Void visitClass(ClassTree tree, Void p) {
            Element element = trees.getElement(getCurrentPath());
            classes++;
            boolean outer = tree.getSimpleName().contentEquals("FairWheel");
            judgeClass(tree, element.getModifiers(), outer);
            int fields = 0;
            for (Element member : element.getEnclosedElements()) {
                Set<Modifier> how = member.getModifiers();
                if (member.getKind() == ElementKind.FIELD && !how.contains(Modifier.STATIC)) {
                    fields++;
                }
                if (member.getKind() == ElementKind.FIELD && how.contains(Modifier.STATIC) && !how.contains(Modifier.FINAL)) {
                    refuse("a static field that isn't final: " + member);
                }
                boolean shown = !how.contains(Modifier.PRIVATE) && !member.getKind().isClass();
                if (outer && shown && !how.contains(Modifier.PUBLIC)) {
                    refuse("a member that is not private: " + member);
                }
                if (outer && shown) {
                    publics.add(member.toString());
                }
            }
            if (fields > 20) {
                refuse(tree.getSimpleName() + " has fields: " + fields);
            }
            return super.visitClass(tree, p);
        }

        private void judgeClass(ClassTree tree, Set<Modifier> how, boolean outer) {
            if (inside != null) {
                refuse("a class inside a method: " + inside);
            }
            if (outer && !(how.contains(Modifier.PUBLIC) && how.contains(Modifier.FINAL))) {
                refuse("the class is not public and final");
            }
            if (!outer && !how.contains(Modifier.STATIC)) {
                refuse("a class that isn't static: " + tree.getSimpleName());
            }
            if (!outer && (how.contains(Modifier.PUBLIC) || how.contains(Modifier.PROTECTED))) {
                refuse("a class inside that is shown: " + tree.getSimpleName());
            }
        }

        @Override
        public Void visitBlock(BlockTree tree, Void p) {
            if (inside == null) {
                refuse("an initialiser block");
            }
            return super.visitBlock(tree, p);
        }

        /** A loop's own lines show its end: something is held against a bound, or a row is gone through. */
        private void judgeLoop(ExpressionTree condition) {
            if (condition == null || !condition.toString().matches(".*[<>].*")) {
                refuse("a loop whose end can't be seen: " + condition);
            }
        }

        @Override
        public Void visitForLoop(ForLoopTree tree, Void p) {
            judgeLoop(tree.getCondition());
            return super.visitForLoop(tree, p);
        }

        @Override
        public Void visitWhileLoop(WhileLoopTree tree, Void p) {
            judgeLoop(tree.getCondition());
            return super.visitWhileLoop(tree, p);
        }

        @Override
        public Void visitDoWhileLoop(DoWhileLoopTree tree, Void p) {
            judgeLoop(tree.getCondition());
            return super.visitDoWhileLoop(tree, p);
        }

        @Override
        public Void visitEnhancedForLoop(EnhancedForLoopTree tree, Void p) {
            if (!String.valueOf(trees.getTypeMirror(new com.sun.source.util.TreePath(getCurrentPath(),
                    tree.getExpression()))).endsWith("[]")) {
                refuse("a loop over what is no array: " + tree.getExpression());
            }
            return super.visitEnhancedForLoop(tree, p);
        }

        @Override
        public Void visitTypeCast(TypeCastTree tree, Void p) {
            if (!tree.getType().toString().matches("int|long|byte|char|short")) {
                refuse("a cast: " + tree);
            }
            return super.visitTypeCast(tree, p);
        }

        @Override
        public Void visitInstanceOf(InstanceOfTree tree, Void p) {
            refuse("instanceof: no class here has kinds");
            return super.visitInstanceOf(tree, p);
        }

        @Override
        public Void visitNewArray(NewArrayTree tree, Void p) {
            boolean constant = tree.getDimensions() != null && tree.getDimensions().size() == 1
                    && tree.getDimensions().get(0).toString().matches("MAX_[A-Z]+");
            if (!constant || inside != null && inside.getKind() != ElementKind.CONSTRUCTOR) {
                refuse("an array of another length than a document's bound, or made by a call: " + tree);
            }
            return super.visitNewArray(tree, p);
        }

        @Override
        public Void visitMethod(MethodTree tree, Void p) {
            ExecutableElement before = inside;
            inside = (ExecutableElement) trees.getElement(getCurrentPath());
            calls.computeIfAbsent(inside, k -> new HashSet<>());
            if (tree.getParameters().size() > 7) {
                refuse("too many parameters: " + inside);
            }
            long from = trees.getSourcePositions().getStartPosition(unit, tree);
            long to = trees.getSourcePositions().getEndPosition(unit, tree);
            if (from >= 0 && to >= 0 && line(to) - line(from) > 60) {
                refuse("too long: " + inside);
            }
            if (inside.getModifiers().contains(Modifier.PRIVATE)) {
                privates.add(inside);
            }
            super.visitMethod(tree, p);
            inside = before;
            return null;
        }

        private void note(Element called) {
            if (called instanceof ExecutableElement && inside != null) {
                String owner = called.getEnclosingElement().toString();
                if (!owner.startsWith("FairWheel") && called.getKind() == ElementKind.METHOD
                        && !LIBRARY.contains(called.getSimpleName().toString())) {
                    refuse("of the library: " + owner + "." + called);
                }
                calls.get(inside).add((ExecutableElement) called);
            }
        }

        @Override
        public Void visitMethodInvocation(MethodInvocationTree tree, Void p) {
            note(trees.getElement(getCurrentPath()));
            return super.visitMethodInvocation(tree, p);
        }

        @Override
        public Void visitNewClass(NewClassTree tree, Void p) {
            note(trees.getElement(getCurrentPath()));
            if (inside != null && inside.getKind() != ElementKind.CONSTRUCTOR) {
                refuse("an object made by a call: " + inside);
            }
            return super.visitNewClass(tree, p);
        }

        private boolean isText(ExpressionTree part) {
            return "java.lang.String".equals(String.valueOf(trees.getTypeMirror(
                    new com.sun.source.util.TreePath(getCurrentPath(), part))));
        }

        @Override
        public Void visitBinary(BinaryTree tree, Void p) {
            if (isText(tree.getLeftOperand()) || isText(tree.getRightOperand())) {
                refuse("an operator on texts: " + tree);
            }
            return super.visitBinary(tree, p);
        }

        @Override
        public Void visitCompoundAssignment(CompoundAssignmentTree tree, Void p) {
            if (isText(tree.getVariable())) {
                refuse("joined texts: " + tree);
            }
            return super.visitCompoundAssignment(tree, p);
        }

        @Override
        public Void visitVariable(VariableTree tree, Void p) {
            String type = String.valueOf(tree.getType());
            if (!type.matches("(int|long|byte|boolean|String|[A-Z][a-z]+)(\\[\\])?|FairWheel")) {
                refuse("a type: " + tree);
            }
            return super.visitVariable(tree, p);
        }

        @Override
        public Void visitThrow(ThrowTree tree, Void p) {
            refuse("throw");
            return null;
        }

        @Override
        public Void visitTry(TryTree tree, Void p) {
            refuse("try");
            return null;
        }

        @Override
        public Void visitSynchronized(SynchronizedTree tree, Void p) {
            refuse("synchronized");
            return null;
        }

        @Override
        public Void visitAssert(AssertTree tree, Void p) {
            refuse("assert");
            return null;
        }

        @Override
        public Void visitLambdaExpression(LambdaExpressionTree tree, Void p) {
            refuse("lambda");
            return null;
        }

        @Override
        public Void visitMemberReference(MemberReferenceTree tree, Void p) {
            refuse("method reference");
            return null;
        }

        private List<String> deepest(ExecutableElement from, Set<ExecutableElement> open) {
            List<String> best = new ArrayList<>();
            if (!open.add(from)) {
                refuse("recursion through " + from);
                return best;
            }
            for (ExecutableElement to : calls.getOrDefault(from, Set.of())) {
                List<String> way = deepest(to, open);
                best = way.size() > best.size() ? way : best;
            }
            open.remove(from);
            List<String> whole = new ArrayList<>();
            whole.add(from.getSimpleName().toString());
            whole.addAll(best);
            return whole;
        }

        void judge() {
            Set<String> face = new TreeSet<>(List.of(FACE));
            face.add("NONE");
            if (!publics.equals(face)) {
                refuse("the face is " + publics);
            }
            if (classes > 12) {
                refuse("classes: " + classes);
            }
            for (ExecutableElement method : privates) {
                for (String shown : publics) {
                    if (shown.startsWith(method.getSimpleName() + "(")) {
                        refuse("a private method with a public one's name: " + method);
                    }
                }
            }
            List<String> deepest = new ArrayList<>();
            for (ExecutableElement method : calls.keySet()) {
                List<String> way = deepest(method, new HashSet<>());
                deepest = way.size() > deepest.size() ? way : deepest;
            }
            System.out.println("deepest calls: " + deepest);
            if (deepest.size() > 8) {
                refuse("calls go too deep");
            }
        }
    }
}
