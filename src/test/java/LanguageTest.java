import com.sun.source.tree.AnnotationTree;
import com.sun.source.tree.ArrayTypeTree;
import com.sun.source.tree.AssertTree;
import com.sun.source.tree.BinaryTree;
import com.sun.source.tree.BlockTree;
import com.sun.source.tree.ClassTree;
import com.sun.source.tree.CompilationUnitTree;
import com.sun.source.tree.ConditionalExpressionTree;
import com.sun.source.tree.DoWhileLoopTree;
import com.sun.source.tree.EnhancedForLoopTree;
import com.sun.source.tree.ExpressionTree;
import com.sun.source.tree.ForLoopTree;
import com.sun.source.tree.LambdaExpressionTree;
import com.sun.source.tree.LiteralTree;
import com.sun.source.tree.MemberReferenceTree;
import com.sun.source.tree.MethodInvocationTree;
import com.sun.source.tree.MethodTree;
import com.sun.source.tree.NewArrayTree;
import com.sun.source.tree.NewClassTree;
import com.sun.source.tree.ParenthesizedTree;
import com.sun.source.tree.SynchronizedTree;
import com.sun.source.tree.ThrowTree;
import com.sun.source.tree.Tree;
import com.sun.source.tree.TryTree;
import com.sun.source.tree.TypeCastTree;
import com.sun.source.tree.VariableTree;
import com.sun.source.tree.WhileLoopTree;
import com.sun.source.util.JavacTask;
import com.sun.source.util.TreePath;
import com.sun.source.util.TreePathScanner;
import com.sun.source.util.Trees;
import java.io.IOException;
import java.nio.file.Path;
import java.util.ArrayDeque;
import java.util.Deque;
import java.util.EnumSet;
import java.util.HashMap;
import java.util.HashSet;
import java.util.List;
import java.util.Map;
import java.util.Set;
import javax.lang.model.element.Element;
import javax.lang.model.element.ElementKind;
import javax.lang.model.element.ExecutableElement;
import javax.lang.model.element.Modifier;
import javax.lang.model.element.TypeElement;
import javax.lang.model.type.ArrayType;
import javax.lang.model.type.DeclaredType;
import javax.lang.model.type.TypeKind;
import javax.lang.model.type.TypeMirror;
import javax.tools.JavaCompiler;
import javax.tools.StandardJavaFileManager;
import javax.tools.ToolProvider;

/**
 * The rules of LANGUAGE.md, looked at in the source as the compiler reads it. Where the class keeps to less than a rule
 * allows (no recursion, nothing made but with the object), the test holds it to that.
 */
public final class LanguageTest {
    private static final Path SOURCE = Path.of("src/main/java/SameMan.java");

    /** Of the library that rule 4 lists, what the class uses. */
    private static final Set<String> LIBRARY = Set.of("java.lang.String.length", "java.lang.String.charAt",
            "java.lang.Math.min", "java.lang.Math.max", "java.lang.Integer.bitCount");
    private static final Set<TypeKind> NUMBERS = EnumSet.of(TypeKind.INT, TypeKind.LONG, TypeKind.SHORT, TypeKind.BYTE,
            TypeKind.CHAR, TypeKind.BOOLEAN);
    private static final int MOST_PARAMETERS = 7, MOST_LINES = 60, MOST_DEPTH = 8, MOST_CLASSES = 12, MOST_FIELDS = 20;

    public static void main(String[] args) throws IOException {
        JavaCompiler compiler = ToolProvider.getSystemJavaCompiler();
        try (StandardJavaFileManager files = compiler.getStandardFileManager(null, null, null)) {
            JavacTask task = (JavacTask) compiler.getTask(null, files, null, List.of("-proc:none"), null,
                    files.getJavaFileObjects(SOURCE));
            CompilationUnitTree unit = task.parse().iterator().next();
            task.analyze();
            Rules rules = new Rules(Trees.instance(task), unit);
            rules.scan(unit, null);
            rules.whole();
        }
        Check.finish("LanguageTest");
    }

    private static final class Rules extends TreePathScanner<Void, Void> {
        private final Trees trees;
        private final CompilationUnitTree unit;
        private final Map<Element, Set<Element>> calls = new HashMap<>();
        private final Deque<Element> within = new ArrayDeque<>();
        private final Set<String> open = new HashSet<>();
        private final Set<Element> hidden = new HashSet<>();
        private int classes;

        Rules(Trees trees, CompilationUnitTree unit) {
            this.trees = trees;
            this.unit = unit;
        }

        private void holds(int rule, String what, Tree where, boolean so) {
            long at = trees.getSourcePositions().getStartPosition(unit, where);
            long line = at < 0 ? 0 : unit.getLineMap().getLineNumber(at);
            Check.due("LANGUAGE.md, rule " + rule + ", line " + line + ": " + what, so ? 1 : 0, 1);
        }

        private Element element(Tree tree) {
            return trees.getElement(new TreePath(getCurrentPath(), tree));
        }

        private TypeMirror type(Tree tree) {
            return trees.getTypeMirror(new TreePath(getCurrentPath(), tree));
        }

        private boolean isOwn(Element e) {
            return e != null && (e.toString().equals("SameMan") || isOwn(e.getEnclosingElement()));
        }

        private boolean isAllowed(TypeMirror of) {
            if (of instanceof ArrayType row) {
                TypeMirror part = row.getComponentType();
                return NUMBERS.contains(part.getKind()) || part instanceof DeclaredType d && isOwn(d.asElement());
            }
            return of.getKind() == TypeKind.VOID || NUMBERS.contains(of.getKind())
                    || of instanceof DeclaredType d && (isOwn(d.asElement()) || of.toString().equals("java.lang.String"));
        }

        // ---- what there is: rules 1, 2, 3, 5, 11

        @Override
        public Void visitCompilationUnit(CompilationUnitTree node, Void none) {
            holds(1, "one class in the file", node, node.getTypeDecls().size() == 1);
            holds(1, "no package line", node, node.getPackageName() == null);
            holds(4, "no import", node, node.getImports().isEmpty());
            return super.visitCompilationUnit(node, none);
        }

        @Override
        public Void visitClass(ClassTree node, Void none) {
            classes++;
            Element e = trees.getElement(getCurrentPath());
            boolean top = e.getEnclosingElement().getKind() == ElementKind.PACKAGE;
            boolean member = e.getEnclosingElement() instanceof TypeElement;
            holds(2, "a class by a name, static, inside the one", node, top || member && e.getModifiers().contains(Modifier.STATIC));
            holds(1, "a class inside is not for others", node, top || !e.getModifiers().contains(Modifier.PUBLIC)
                    && !e.getModifiers().contains(Modifier.PROTECTED));
            int fields = 0;
            for (Tree part : node.getMembers()) {
                holds(5, "no block of initialisation", part, !(part instanceof BlockTree));
                if (part instanceof VariableTree v && !v.getModifiers().getFlags().contains(Modifier.STATIC)) {
                    fields++;
                }
            }
            holds(11, fields + " fields", node, fields <= MOST_FIELDS);
            within.push(e);
            super.visitClass(node, none);
            within.pop();
            return null;
        }

        @Override
        public Void visitVariable(VariableTree node, Void none) {
            holds(3, "the type of " + node.getName(), node, isAllowed(trees.getTypeMirror(getCurrentPath())));
            Set<Modifier> flags = node.getModifiers().getFlags();
            if (flags.contains(Modifier.STATIC)) {
                boolean constant = node.getInitializer() != null && flags.contains(Modifier.FINAL)
                        && !(type(node.getType()) instanceof ArrayType);
                holds(5, node.getName() + " is a constant", node, constant);
            }
            if (within.peek() instanceof TypeElement t) {
                boolean face = t.getEnclosingElement().getKind() == ElementKind.PACKAGE
                        && Set.of("BAD", "STATE", "FULL", "NONE").contains(node.getName().toString());
                holds(1, node.getName() + " is private", node, flags.contains(Modifier.PRIVATE) != face);
            }
            return super.visitVariable(node, none);
        }

        @Override
        public Void visitMethod(MethodTree node, Void none) {
            ExecutableElement e = (ExecutableElement) trees.getElement(getCurrentPath());
            if (trees.getSourcePositions().getEndPosition(unit, node) < 0 || trees.getSourcePositions()
                    .getStartPosition(unit, node) == trees.getSourcePositions().getStartPosition(unit, parent())) {
                // a constructor that the compiler wrote
                return null;
            }
            boolean face = e.getModifiers().contains(Modifier.PUBLIC);
            if (face) {
                open.add(node.getName().toString());
            } else if (e.getKind() == ElementKind.METHOD) {
                hidden.add(e);
            }
            boolean ofTheFace = e.getEnclosingElement().getEnclosingElement().getKind() == ElementKind.PACKAGE;
            holds(1, node.getName() + " is of the face or hidden", node,
                    ofTheFace ? face || e.getModifiers().contains(Modifier.PRIVATE) : !face);
            holds(11, node.getName() + " takes few", node, node.getParameters().size() <= MOST_PARAMETERS);
            holds(11, node.getName() + " is short", node, lines(node) <= MOST_LINES);
            holds(6, node.getName() + " throws nothing", node, node.getThrows().isEmpty());
            holds(3, node.getName() + " answers what is allowed", node, isAllowed(e.getReturnType()));
            within.push(e);
            calls.putIfAbsent(e, new HashSet<>());
            super.visitMethod(node, none);
            within.pop();
            return null;
        }

        private Tree parent() {
            return getCurrentPath().getParentPath().getLeaf();
        }

        private long lines(Tree node) {
            long first = trees.getSourcePositions().getStartPosition(unit, node);
            long last = trees.getSourcePositions().getEndPosition(unit, node);
            return unit.getLineMap().getLineNumber(last) - unit.getLineMap().getLineNumber(first) + 1;
        }

        // ---- what is done: rules 4, 6, 9, 10, 12

        @Override
        public Void visitMethodInvocation(MethodInvocationTree node, Void none) {
            Element called = element(node.getMethodSelect());
            boolean superclass = called != null && called.getKind() == ElementKind.CONSTRUCTOR;
            if (!superclass && called != null) {
                String name = called.getEnclosingElement() + "." + called.getSimpleName();
                holds(4, name, node, isOwn(called) || LIBRARY.contains(name));
                call(called);
            }
            holds(4, "what is called is known", node, called != null);
            return super.visitMethodInvocation(node, none);
        }

        @Override
        public Void visitNewClass(NewClassTree node, Void none) {
            Element made = element(node);
            holds(4, "own objects alone", node, isOwn(made) && node.getClassBody() == null);
            holds(12, "objects are made with the object", node, isMaking());
            call(made);
            return super.visitNewClass(node, none);
        }

        @Override
        public Void visitNewArray(NewArrayTree node, Void none) {
            holds(12, "rows are made with the object", node, isMaking());
            holds(3, "a row of one dimension", node, node.getDimensions().size() <= 1);
            return super.visitNewArray(node, none);
        }

        private boolean isMaking() {
            Element e = within.peek();
            return e instanceof TypeElement || e != null && e.getKind() == ElementKind.CONSTRUCTOR;
        }

        private void call(Element called) {
            if (isOwn(called) && within.peek() instanceof ExecutableElement e) {
                calls.get(e).add(called);
            }
        }

        @Override
        public Void visitWhileLoop(WhileLoopTree node, Void none) {
            holds(9, "a loop against a bound", node, isAgainstBound(node.getCondition()));
            return super.visitWhileLoop(node, none);
        }

        @Override
        public Void visitForLoop(ForLoopTree node, Void none) {
            holds(9, "a loop against a bound", node, isAgainstBound(node.getCondition()));
            holds(9, "a loop with a counter", node, node.getInitializer().size() == 1 && node.getUpdate().size() == 1);
            return super.visitForLoop(node, none);
        }

        @Override
        public Void visitDoWhileLoop(DoWhileLoopTree node, Void none) {
            holds(9, "a loop that tests first", node, false);
            return super.visitDoWhileLoop(node, none);
        }

        @Override
        public Void visitEnhancedForLoop(EnhancedForLoopTree node, Void none) {
            holds(9, "a loop over an array", node, type(node.getExpression()) instanceof ArrayType);
            return super.visitEnhancedForLoop(node, none);
        }

        private boolean isAgainstBound(ExpressionTree condition) {
            if (condition instanceof ParenthesizedTree p) {
                return isAgainstBound(p.getExpression());
            }
            if (!(condition instanceof BinaryTree b)) {
                return false;
            }
            return switch (b.getKind()) {
                case LESS_THAN, LESS_THAN_EQUAL, GREATER_THAN, GREATER_THAN_EQUAL -> true;
                case CONDITIONAL_AND -> isAgainstBound(b.getLeftOperand()) || isAgainstBound(b.getRightOperand());
                default -> false;
            };
        }

        @Override
        public Void visitBinary(BinaryTree node, Void none) {
            boolean texts = type(node) instanceof DeclaredType;
            holds(10, "texts are not joined by +", node, !texts);
            boolean divides = node.getKind() == Tree.Kind.DIVIDE || node.getKind() == Tree.Kind.REMAINDER;
            boolean looked = node.getRightOperand() instanceof LiteralTree
                    || node.getRightOperand().toString().equals("told.listed");
            holds(7, "a divisor that is looked at", node, !divides || looked);
            return super.visitBinary(node, none);
        }

        @Override
        public Void visitTypeCast(TypeCastTree node, Void none) {
            holds(6, "casts among numbers alone", node, NUMBERS.contains(type(node.getType()).getKind()));
            return super.visitTypeCast(node, none);
        }

        @Override
        public Void visitConditionalExpression(ConditionalExpressionTree node, Void none) {
            holds(3, "a choice among what is allowed", node, isAllowed(trees.getTypeMirror(getCurrentPath())));
            return super.visitConditionalExpression(node, none);
        }

        @Override
        public Void visitLiteral(LiteralTree node, Void none) {
            if (node.getValue() instanceof String s) {
                holds(4, "signs of 1 to 127", node, s.chars().allMatch(c -> c >= 1 && c <= 127));
            }
            return super.visitLiteral(node, none);
        }

        // ---- what is not there

        @Override
        public Void visitThrow(ThrowTree node, Void none) {
            holds(6, "throw", node, false);
            return super.visitThrow(node, none);
        }

        @Override
        public Void visitTry(TryTree node, Void none) {
            holds(6, "try", node, false);
            return super.visitTry(node, none);
        }

        @Override
        public Void visitSynchronized(SynchronizedTree node, Void none) {
            holds(6, "synchronized", node, false);
            return super.visitSynchronized(node, none);
        }

        @Override
        public Void visitAssert(AssertTree node, Void none) {
            holds(6, "assert", node, false);
            return super.visitAssert(node, none);
        }

        @Override
        public Void visitLambdaExpression(LambdaExpressionTree node, Void none) {
            holds(2, "a lambda", node, false);
            return super.visitLambdaExpression(node, none);
        }

        @Override
        public Void visitMemberReference(MemberReferenceTree node, Void none) {
            holds(2, "a method reference", node, false);
            return super.visitMemberReference(node, none);
        }

        @Override
        public Void visitAnnotation(AnnotationTree node, Void none) {
            holds(4, "an annotation", node, false);
            return super.visitAnnotation(node, none);
        }

        @Override
        public Void visitArrayType(ArrayTypeTree node, Void none) {
            holds(3, "a row of what is allowed", node, isAllowed(trees.getTypeMirror(getCurrentPath())));
            return super.visitArrayType(node, none);
        }

        // ---- the whole: rules 1, 8, 11

        void whole() {
            Check.due("LANGUAGE.md, rule 11: " + classes + " classes", classes <= MOST_CLASSES ? 1 : 0, 1);
            for (Element e : hidden) {
                Check.due("LANGUAGE.md, rule 1: " + e + " has no name of the face",
                        open.contains(e.getSimpleName().toString()) ? 1 : 0, 0);
            }
            int deepest = 0;
            for (Element e : calls.keySet()) {
                deepest = Math.max(deepest, depth(e, new ArrayDeque<>()));
            }
            System.out.println("calls go " + deepest + " deep");
            Check.due("LANGUAGE.md, rule 11: calls go " + deepest + " deep", deepest <= MOST_DEPTH ? 1 : 0, 1);
        }

        private int depth(Element e, Deque<Element> above) {
            if (above.contains(e)) {
                Check.due("LANGUAGE.md, rule 8: " + e + " calls itself", 1, 0);
                return 0;
            }
            above.push(e);
            int deepest = 0;
            for (Element called : calls.getOrDefault(e, Set.of())) {
                deepest = Math.max(deepest, depth(called, above));
            }
            above.pop();
            return deepest + 1;
        }
    }
}
