import com.sun.source.tree.BinaryTree;
import com.sun.source.tree.ClassTree;
import com.sun.source.tree.CompilationUnitTree;
import com.sun.source.tree.CompoundAssignmentTree;
import com.sun.source.tree.EnhancedForLoopTree;
import com.sun.source.tree.ImportTree;
import com.sun.source.tree.LambdaExpressionTree;
import com.sun.source.tree.MemberReferenceTree;
import com.sun.source.tree.MethodInvocationTree;
import com.sun.source.tree.MethodTree;
import com.sun.source.tree.NewClassTree;
import com.sun.source.tree.ThrowTree;
import com.sun.source.tree.Tree;
import com.sun.source.tree.TryTree;
import com.sun.source.tree.TypeCastTree;
import com.sun.source.tree.VariableTree;
import com.sun.source.util.JavacTask;
import com.sun.source.util.SourcePositions;
import com.sun.source.util.TreePath;
import com.sun.source.util.TreePathScanner;
import com.sun.source.util.Trees;
import java.io.IOException;
import java.nio.file.Path;
import java.util.ArrayList;
import java.util.HashMap;
import java.util.HashSet;
import java.util.LinkedHashSet;
import java.util.List;
import java.util.Map;
import java.util.Set;
import java.util.TreeSet;
import javax.lang.model.element.Element;
import javax.lang.model.element.ElementKind;
import javax.lang.model.element.ExecutableElement;
import javax.lang.model.element.Modifier;
import javax.tools.JavaCompiler;
import javax.tools.ToolProvider;

/** What of LANGUAGE.md can be seen in the source of the class, looked at by the compiler's trees. */
final class LanguageTest extends TreePathScanner<Void, Void> {
    private static final Set<String> FACE = Set.of("day", "firm", "fact", "known", "work", "done",
            "bench", "log", "feed", "rules", "beside", "fault", "review", "holds", "allowed",
            "points", "worth", "line", "revenue", "bills", "home", "tried", "hole", "span",
            "moves", "putBy", "borne", "best", "tell", "check", "twice", "who", "count", "NONE",
            "<init>");
    private static final Map<String, Set<String>> LIBRARY = Map.of(
            "java.lang.String", Set.of("length", "charAt", "isEmpty", "equals", "indexOf",
                    "substring", "toCharArray"),
            "java.lang.Math", Set.of("max", "min", "abs", "floorDiv", "floorMod"),
            "java.util.Arrays", Set.of("copyOf", "copyOfRange", "fill"),
            "java.lang.System", Set.of("arraycopy"),
            "java.lang.Object", Set.of("<init>"));

    private final CompilationUnitTree unit;
    private final Trees trees;
    private final SourcePositions places;
    private final Set<String> classes = new TreeSet<>();
    private final Map<String, Set<String>> calls = new HashMap<>();
    private String method = "";

    private LanguageTest(CompilationUnitTree unit, Trees trees) {
        this.unit = unit;
        this.trees = trees;
        places = trees.getSourcePositions();
    }

    public static void main(String[] args) throws IOException {
        JavaCompiler compiler = ToolProvider.getSystemJavaCompiler();
        var files = compiler.getStandardFileManager(null, null, null);
        var sources = files.getJavaFileObjects(Path.of("src/main/java/WaterReview.java"));
        JavacTask task = (JavacTask) compiler.getTask(null, files, null,
                List.of("-proc:none", "--release", "17"), null, sources);
        CompilationUnitTree unit = task.parse().iterator().next();
        task.analyze();
        LanguageTest test = new LanguageTest(unit, Trees.instance(task));
        test.scan(new TreePath(unit), null);
        test.atTheEnd();
        Check.end();
    }

    private void must(boolean holds, Tree where, String what) {
        long line = unit.getLineMap().getLineNumber(places.getStartPosition(unit, where));
        Check.due("line " + line + ": " + what, holds, true);
    }

    private Element element() {
        return trees.getElement(getCurrentPath());
    }

    private static boolean has(Element element, Modifier modifier) {
        return element.getModifiers().contains(modifier);
    }

    @Override
    public Void visitCompilationUnit(CompilationUnitTree tree, Void none) {
        must(tree.getPackageName() == null, tree, "rule 1: no package");
        must(tree.getTypeDecls().size() == 1, tree, "rule 1: one class");
        return super.visitCompilationUnit(tree, none);
    }

    @Override
    public Void visitImport(ImportTree tree, Void none) {
        String name = tree.getQualifiedIdentifier().toString();
        must(Set.of("java.util.Arrays", "java.util.ArrayList", "java.util.List").contains(name),
                tree, "rule 4: import " + name);
        return super.visitImport(tree, none);
    }

    @Override
    public Void visitClass(ClassTree tree, Void none) {
        Element element = element();
        classes.add(tree.getSimpleName().toString());
        boolean isFace = tree.getSimpleName().contentEquals("WaterReview");
        must(isFace == has(element, Modifier.PUBLIC), tree, "rule 1: public");
        must(has(element, Modifier.FINAL), tree, "rule 1: final");
        must(isFace || has(element, Modifier.STATIC), tree, "rule 1: a class inside is static");
        long fields = 0;
        for (Element member : element.getEnclosedElements()) {
            String name = member.getSimpleName().toString();
            boolean isField = member.getKind() == ElementKind.FIELD;
            fields += isField && !has(member, Modifier.STATIC) ? 1 : 0;
            must(!isField || !has(member, Modifier.STATIC) || has(member, Modifier.FINAL), tree,
                    "rule 5: final " + name);
            boolean isPublic = has(member, Modifier.PUBLIC);
            if (isFace && !member.getKind().isClass()) {
                must(isPublic ? FACE.contains(name) : has(member, Modifier.PRIVATE), tree,
                        "rule 1: the face has " + name);
            }
            if (member.getKind() == ElementKind.METHOD && !(isFace && isPublic)) {
                must(!FACE.contains(name), tree, "rule 1: a method bears the face's name " + name);
            }
        }
        must(fields <= 20, tree, "rule 11: " + fields + " fields");
        return super.visitClass(tree, none);
    }

    @Override
    public Void visitMethod(MethodTree tree, Void none) {
        method = nameOf((ExecutableElement) element());
        calls.put(method, new LinkedHashSet<>());
        must(tree.getParameters().size() <= 7, tree, "rule 11: parameters of " + method);
        var map = unit.getLineMap();
        long lines = tree.getBody() == null ? 0
                : map.getLineNumber(places.getEndPosition(unit, tree))
                - map.getLineNumber(places.getStartPosition(unit, tree)) + 1;
        must(lines <= 60, tree, "rule 11: " + method + " has " + lines + " lines");
        return super.visitMethod(tree, none);
    }

    private static String nameOf(ExecutableElement element) {
        return element.getEnclosingElement().getSimpleName() + "." + element;
    }

    @Override
    public Void visitMethodInvocation(MethodInvocationTree tree, Void none) {
        called((ExecutableElement) element(), tree);
        return super.visitMethodInvocation(tree, none);
    }

    @Override
    public Void visitNewClass(NewClassTree tree, Void none) {
        must(tree.getClassBody() == null, tree, "no anonymous class");
        called((ExecutableElement) element(), tree);
        return super.visitNewClass(tree, none);
    }

    private void called(ExecutableElement to, Tree tree) {
        String owner = to.getEnclosingElement().toString();
        if (owner.startsWith("WaterReview")) {
            calls.computeIfAbsent(method, m -> new LinkedHashSet<>()).add(nameOf(to));
            return;
        }
        Set<String> names = LIBRARY.getOrDefault(owner, Set.of());
        String name = to.getSimpleName().toString();
        must(names.contains(name), tree, "rule 4: " + owner + "." + name);
        calls.computeIfAbsent(method, m -> new LinkedHashSet<>()).add(owner + "." + name);
        if (owner.equals("java.util.Arrays")) {
            must(!to.getParameters().get(0).asType().toString().startsWith("boolean"), tree,
                    "rule 4: Arrays over numbers alone");
        }
    }

    @Override
    public Void visitLambdaExpression(LambdaExpressionTree tree, Void none) {
        must(false, tree, "rule 2: no lambda");
        return null;
    }

    @Override
    public Void visitMemberReference(MemberReferenceTree tree, Void none) {
        must(false, tree, "rule 2: no method reference");
        return null;
    }

    @Override
    public Void visitTry(TryTree tree, Void none) {
        must(false, tree, "the class needs no try");
        return null;
    }

    @Override
    public Void visitThrow(ThrowTree tree, Void none) {
        must(false, tree, "the document names no exception");
        return null;
    }

    @Override
    public Void visitTypeCast(TypeCastTree tree, Void none) {
        must(Set.of("int", "long").contains(tree.getType().toString()), tree,
                "the class casts numbers alone");
        return super.visitTypeCast(tree, none);
    }

    @Override
    public Void visitEnhancedForLoop(EnhancedForLoopTree tree, Void none) {
        String type = trees.getTypeMirror(new TreePath(getCurrentPath(), tree.getExpression()))
                .toString();
        must(type.endsWith("[]"), tree, "rule 12: a for over an array, not over " + type);
        return super.visitEnhancedForLoop(tree, none);
    }

    @Override
    public Void visitBinary(BinaryTree tree, Void none) {
        must(!trees.getTypeMirror(getCurrentPath()).toString().equals("java.lang.String"), tree,
                "rule 10: texts aren't joined by +");
        return super.visitBinary(tree, none);
    }

    @Override
    public Void visitCompoundAssignment(CompoundAssignmentTree tree, Void none) {
        must(!trees.getTypeMirror(getCurrentPath()).toString().equals("java.lang.String"), tree,
                "rule 10: texts aren't joined by +=");
        return super.visitCompoundAssignment(tree, none);
    }

    @Override
    public Void visitVariable(VariableTree tree, Void none) {
        String type = element().asType().toString();
        must(type.matches("(WaterReview\\.\\w+|java\\.lang\\.String|boolean|char|byte|short)"
                + "(\\[])?|(int|long)(\\[]){0,2}"), tree, "rule 3: " + type);
        return super.visitVariable(tree, none);
    }

    private void atTheEnd() {
        must(classes.size() <= 12, unit, "rule 11: " + classes.size() + " classes");
        for (String from : calls.keySet()) {
            if (from.startsWith("WaterReview.")) {
                List<String> deepest = deepest(from, new HashSet<>());
                must(deepest.size() <= 8, unit, "rule 11: calls go deep: " + deepest);
            }
        }
        for (String from : calls.keySet()) {
            must(!reaches(from, from, new HashSet<>())
                    || from.matches("Reader\\.(any|all|one)\\(int\\)"), unit,
                    "rule 8: only the tests of a text are read by recursion, not " + from);
        }
    }

    /** The longest row of calls from a method on, what is called again left out. */
    private List<String> deepest(String from, Set<String> open) {
        List<String> longest = new ArrayList<>();
        open.add(from);
        for (String to : calls.getOrDefault(from, Set.of())) {
            if (!open.contains(to)) {
                List<String> row = deepest(to, open);
                longest = row.size() > longest.size() ? row : longest;
            }
        }
        open.remove(from);
        List<String> all = new ArrayList<>();
        // Those that call themselves again are recursion: the rule leaves them out.
        if (!reaches(from, from, new HashSet<>())) {
            all.add(from);
        }
        all.addAll(longest);
        return all;
    }

    private boolean reaches(String from, String to, Set<String> seen) {
        for (String next : calls.getOrDefault(from, Set.of())) {
            if (next.equals(to) || seen.add(next) && reaches(next, to, seen)) {
                return true;
            }
        }
        return false;
    }
}
