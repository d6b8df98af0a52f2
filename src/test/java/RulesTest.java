import com.sun.source.tree.AssertTree;
import com.sun.source.tree.BinaryTree;
import com.sun.source.tree.ClassTree;
import com.sun.source.tree.CompilationUnitTree;
import com.sun.source.tree.CompoundAssignmentTree;
import com.sun.source.tree.ForLoopTree;
import com.sun.source.tree.IdentifierTree;
import com.sun.source.tree.LambdaExpressionTree;
import com.sun.source.tree.MemberReferenceTree;
import com.sun.source.tree.MemberSelectTree;
import com.sun.source.tree.MethodInvocationTree;
import com.sun.source.tree.MethodTree;
import com.sun.source.tree.NewArrayTree;
import com.sun.source.tree.NewClassTree;
import com.sun.source.tree.SynchronizedTree;
import com.sun.source.tree.ThrowTree;
import com.sun.source.tree.Tree;
import com.sun.source.tree.TryTree;
import com.sun.source.tree.TypeCastTree;
import com.sun.source.tree.VariableTree;
import com.sun.source.util.JavacTask;
import com.sun.source.util.SourcePositions;
import com.sun.source.util.TreePath;
import com.sun.source.util.TreePathScanner;
import com.sun.source.util.Trees;
import java.nio.file.Path;
import java.util.ArrayList;
import java.util.List;
import java.util.Map;
import java.util.Set;
import java.util.TreeMap;
import java.util.TreeSet;
import javax.lang.model.element.Element;
import javax.lang.model.element.ElementKind;
import javax.lang.model.element.ExecutableElement;
import javax.lang.model.element.TypeElement;
import javax.lang.model.type.ArrayType;
import javax.lang.model.type.TypeKind;
import javax.lang.model.type.TypeMirror;
import javax.tools.JavaCompiler;
import javax.tools.StandardJavaFileManager;
import javax.tools.ToolProvider;

/** The rules of ../shared/LANGUAGE.md, by what the compiler itself reads in the program. */
public final class RulesTest extends TreePathScanner<Void, Void> {
    private static final Check CHECK = new Check();
    private static final Path SOURCE = Path.of("src/main/java/LateMoons.java");
    private static final int DEEPEST = 8;
    private static final int LONGEST = 60;

    /** What the program uses of rule 4's list; no more of the list, so that each new use is looked up there. */
    private static final Set<String> LIBRARY = Set.of("java.lang.System.arraycopy", "java.lang.Math.abs",
        "java.lang.Math.min", "java.lang.Math.max", "java.lang.Integer.bitCount", "java.lang.Object.<init>");

    private final Trees trees;
    private final SourcePositions positions;
    private final CompilationUnitTree unit;
    private final Map<String, Set<String>> calls = new TreeMap<>();
    private final List<String> classes = new ArrayList<>();

    private RulesTest(Trees trees, CompilationUnitTree unit) {
        this.trees = trees;
        this.positions = trees.getSourcePositions();
        this.unit = unit;
    }

    public static void main(String[] args) throws Exception {
        JavaCompiler compiler = ToolProvider.getSystemJavaCompiler();
        StandardJavaFileManager files = compiler.getStandardFileManager(null, null, null);
        JavacTask task = (JavacTask) compiler.getTask(null, files, null, List.of("--release", "17", "-proc:none"),
            null, files.getJavaFileObjects(SOURCE));
        CompilationUnitTree unit = task.parse().iterator().next();
        task.analyze();
        RulesTest rules = new RulesTest(Trees.instance(task), unit);
        rules.scan(unit, null);
        rules.wholeFile();
        CHECK.end();
    }

    private void wholeFile() {
        CHECK.due("a package line", unit.getPackageName() == null ? 0 : 1, 0);
        CHECK.due("imports", unit.getImports().size(), 0);
        CHECK.due("types of the file", unit.getTypeDecls().size(), 1);
        CHECK.due("rule 11: some twelve classes", classes.size() > 12 ? classes.size() : 0, 0);
        CHECK.due("methods were found", calls.size() > 100 ? 1 : 0, 1);
        for (String method : calls.keySet()) {
            int depth = depthOf(method, new ArrayList<>());
            CHECK.due("rule 11: calls from " + method + " go eight deep", depth > DEEPEST ? depth : 0, 0);
        }
    }

    /** How many calls stand open at once, this one too; the program has no recursion at all. */
    private int depthOf(String method, List<String> open) {
        if (open.contains(method)) {
            CHECK.due("rule 8: " + open + " comes back to " + method, 1, 0);
            return 0;
        }
        open.add(method);
        int deepest = 0;
        for (String called : calls.getOrDefault(method, Set.of())) {
            deepest = Math.max(deepest, depthOf(called, open));
        }
        open.remove(method);
        return deepest + 1;
    }

    private void never(String rule, Tree tree) {
        CHECK.due(rule + ", line " + lineOf(tree) + ": " + tree.toString().split("\n")[0], 1, 0);
    }

    private long lineOf(Tree tree) {
        return unit.getLineMap().getLineNumber(positions.getStartPosition(unit, tree));
    }

    private Element elementHere() {
        return trees.getElement(getCurrentPath());
    }

    /** The method, constructor or class (for its fields' first values) that a piece of the program stands in. */
    private Element placeHere() {
        for (TreePath at = getCurrentPath(); at != null; at = at.getParentPath()) {
            Tree.Kind kind = at.getLeaf().getKind();
            if (kind == Tree.Kind.METHOD || kind == Tree.Kind.CLASS) {
                return trees.getElement(at);
            }
        }
        return null;
    }

    private static boolean isOwn(Element element) {
        for (Element e = element; e != null; e = e.getEnclosingElement()) {
            if (e.getKind().isClass() && e.getSimpleName().contentEquals("LateMoons")) {
                return true;
            }
        }
        return false;
    }

    private static String nameOf(Element element) {
        return element.getEnclosingElement() + "." + element.getSimpleName();
    }

    /** First values of fields are given when the class's objects are made. */
    private static String callerOf(Element place) {
        return place instanceof TypeElement ? place + ".<init>" : nameOf(place);
    }

    private void used(Element element) {
        boolean isMember = element.getKind().isField() || element instanceof ExecutableElement;
        boolean isLength = element.getSimpleName().contentEquals("length") && element.getKind().isField();
        if (isMember && !isLength && !isOwn(element)) {
            CHECK.due("rule 4: the library's " + nameOf(element) + " is on the list",
                LIBRARY.contains(nameOf(element)) ? 1 : 0, 1);
        }
        if (element instanceof ExecutableElement) {
            String caller = callerOf(placeHere());
            calls.computeIfAbsent(caller, k -> new TreeSet<>()).add(nameOf(element));
        }
    }

    @Override
    public Void visitClass(ClassTree tree, Void v) {
        TypeElement type = (TypeElement) elementHere();
        classes.add(type.toString());
        boolean isFace = type.getSimpleName().contentEquals("LateMoons");
        CHECK.due("rule 2: " + type + " stands in no method", type.getNestingKind().toString().equals("LOCAL")
            || type.getNestingKind().toString().equals("ANONYMOUS") ? 1 : 0, 0);
        CHECK.due("rule 2: " + type + " is static", isFace || has(type, "static") ? 1 : 0, 1);
        CHECK.due("rule 1: " + type + " is inside and not public", !isFace && has(type, "public") ? 1 : 0, 0);
        for (Tree member : tree.getMembers()) {
            if (member.getKind() == Tree.Kind.BLOCK) {
                never("rule 5: no initialiser block", member);
            }
        }
        return super.visitClass(tree, v);
    }

    private static boolean has(Element element, String modifier) {
        return element.getModifiers().stream().anyMatch(m -> m.toString().equals(modifier));
    }

    @Override
    public Void visitMethod(MethodTree tree, Void v) {
        Element method = elementHere();
        calls.computeIfAbsent(nameOf(method), k -> new TreeSet<>());
        CHECK.due("rule 11: " + method + " takes seven at most", tree.getParameters().size() > 7 ? 1 : 0, 0);
        long lines = unit.getLineMap().getLineNumber(positions.getEndPosition(unit, tree)) - lineOf(tree) + 1;
        CHECK.due("rule 11: lines of " + method, lines > LONGEST ? lines : 0, 0);
        CHECK.due("rule 6: " + method + " throws", tree.getThrows().size(), 0);
        if (tree.getReturnType() != null) {
            allowed(((ExecutableElement) method).getReturnType(), tree.getReturnType());
        }
        return super.visitMethod(tree, v);
    }

    @Override
    public Void visitVariable(VariableTree tree, Void v) {
        Element variable = elementHere();
        allowed(variable.asType(), tree);
        if (variable.getKind() == ElementKind.FIELD && has(variable, "static")) {
            CHECK.due("rule 5: " + variable + " is final", has(variable, "final") ? 1 : 0, 1);
            boolean isArray = variable.asType().getKind() == TypeKind.ARRAY;
            CHECK.due("rule 5: " + variable + " is written out",
                !isArray || tree.getInitializer().getKind() == Tree.Kind.NEW_ARRAY ? 1 : 0, 1);
        }
        return super.visitVariable(tree, v);
    }

    /** Rule 3, as far as the program needs it: whole numbers, truths, its own classes and rows of these. */
    private void allowed(TypeMirror type, Tree tree) {
        TypeMirror bare = type.getKind() == TypeKind.ARRAY ? ((ArrayType) type).getComponentType() : type;
        boolean fine = bare.getKind() == TypeKind.INT || bare.getKind() == TypeKind.LONG
            || bare.getKind() == TypeKind.BOOLEAN || type.getKind() == TypeKind.VOID
            || bare.toString().startsWith("LateMoons.");
        if (!fine) {
            never("rule 3: the type " + type, tree);
        }
    }

    @Override
    public Void visitIdentifier(IdentifierTree tree, Void v) {
        if (elementHere() != null) {
            used(elementHere());
        }
        return super.visitIdentifier(tree, v);
    }

    @Override
    public Void visitMemberSelect(MemberSelectTree tree, Void v) {
        if (elementHere() != null) {
            used(elementHere());
        }
        return super.visitMemberSelect(tree, v);
    }

    @Override
    public Void visitMethodInvocation(MethodInvocationTree tree, Void v) {
        noneOfThis(tree.getArguments());
        return super.visitMethodInvocation(tree, v);
    }

    @Override
    public Void visitNewClass(NewClassTree tree, Void v) {
        used(elementHere());
        noneOfThis(tree.getArguments());
        madeWithTheObject(tree);
        if (tree.getClassBody() != null) {
            never("rule 2: no class without a name", tree);
        }
        return super.visitNewClass(tree, v);
    }

    @Override
    public Void visitNewArray(NewArrayTree tree, Void v) {
        madeWithTheObject(tree);
        return super.visitNewArray(tree, v);
    }

    /** The room: what is made is made when an object is, none by a call. */
    private void madeWithTheObject(Tree tree) {
        Element place = placeHere();
        if (place.getKind() == ElementKind.METHOD) {
            never("made by a call", tree);
        }
    }

    /** Rule 12: a constructor hands out nothing of the object; here no method does. */
    private void noneOfThis(List<? extends Tree> arguments) {
        for (Tree argument : arguments) {
            if (argument.toString().equals("this")) {
                never("rule 12: handed out", argument);
            }
        }
    }

    @Override
    public Void visitTypeCast(TypeCastTree tree, Void v) {
        CHECK.due("rule 7: a cast among numbers, line " + lineOf(tree),
            tree.getType().getKind() == Tree.Kind.PRIMITIVE_TYPE ? 1 : 0, 1);
        return super.visitTypeCast(tree, v);
    }

    @Override
    public Void visitBinary(BinaryTree tree, Void v) {
        boolean divides = tree.getKind() == Tree.Kind.DIVIDE || tree.getKind() == Tree.Kind.REMAINDER;
        if (divides) {
            neverZero(tree.getRightOperand(), new TreePath(getCurrentPath(), tree.getRightOperand()));
        }
        return super.visitBinary(tree, v);
    }

    @Override
    public Void visitCompoundAssignment(CompoundAssignmentTree tree, Void v) {
        if (tree.getKind() == Tree.Kind.DIVIDE_ASSIGNMENT || tree.getKind() == Tree.Kind.REMAINDER_ASSIGNMENT) {
            neverZero(tree.getExpression(), new TreePath(getCurrentPath(), tree.getExpression()));
        }
        return super.visitCompoundAssignment(tree, v);
    }

    /** Rule 7: a number written out, a constant, powers of seven, or the year, whose line sees to it. */
    private void neverZero(Tree divisor, TreePath path) {
        Element element = trees.getElement(path);
        boolean isConstant = element != null && element.getKind() == ElementKind.FIELD && has(element, "static");
        boolean fine = divisor.getKind() == Tree.Kind.INT_LITERAL || isConstant
            || divisor.toString().startsWith("NUMBERS_TO[") || divisor.toString().equals("year");
        if (!fine) {
            never("rule 7: a divisor that may be 0", divisor);
        }
    }

    @Override
    public Void visitForLoop(ForLoopTree tree, Void v) {
        CHECK.due("rule 9: the loop of line " + lineOf(tree) + " has an end", tree.getCondition() == null ? 1 : 0, 0);
        return super.visitForLoop(tree, v);
    }

    @Override
    public Void visitLambdaExpression(LambdaExpressionTree tree, Void v) {
        never("rule 2", tree);
        return null;
    }

    @Override
    public Void visitMemberReference(MemberReferenceTree tree, Void v) {
        never("rule 2", tree);
        return null;
    }

    @Override
    public Void visitThrow(ThrowTree tree, Void v) {
        never("rule 6", tree);
        return null;
    }

    @Override
    public Void visitTry(TryTree tree, Void v) {
        never("rule 6", tree);
        return null;
    }

    @Override
    public Void visitSynchronized(SynchronizedTree tree, Void v) {
        never("rule 6", tree);
        return null;
    }

    @Override
    public Void visitAssert(AssertTree tree, Void v) {
        never("rule 6", tree);
        return null;
    }
}
