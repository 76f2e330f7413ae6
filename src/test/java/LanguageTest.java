import com.sun.source.tree.AssertTree;
import com.sun.source.tree.ClassTree;
import com.sun.source.tree.CompilationUnitTree;
import com.sun.source.tree.ImportTree;
import com.sun.source.tree.LambdaExpressionTree;
import com.sun.source.tree.MemberReferenceTree;
import com.sun.source.tree.MemberSelectTree;
import com.sun.source.tree.MethodInvocationTree;
import com.sun.source.tree.MethodTree;
import com.sun.source.tree.NewClassTree;
import com.sun.source.tree.SynchronizedTree;
import com.sun.source.tree.ThrowTree;
import com.sun.source.tree.Tree;
import com.sun.source.tree.TryTree;
import com.sun.source.tree.VariableTree;
import com.sun.source.util.JavacTask;
import com.sun.source.util.TreeScanner;
import com.sun.source.util.Trees;
import java.io.IOException;
import java.nio.file.Files;
import java.nio.file.Path;
import java.util.List;
import java.util.Map;
import java.util.Set;
import java.util.TreeMap;
import java.util.TreeSet;
import javax.lang.model.element.Modifier;
import javax.tools.JavaCompiler;
import javax.tools.ToolProvider;

/** The rules of LANGUAGE.md that can be seen in the source itself. Run from the project's folder. */
public final class LanguageTest extends TreeScanner<Void, Void> {
    private static final Path SOURCE = Path.of("src", "main", "java", "TornLayers.java");
    private static final Set<String> LIBRARY =
            Set.of("Arrays.fill", "System.arraycopy", "Long.bitCount", "LETTERS.indexOf");
    private static final Set<String> FACE = Set.of("layer", "of", "read", "readOld", "unlike", "sum",
            "write", "snap", "drop", "revert", "giveUp", "merge", "move", "fold", "tear", "cluster",
            "spoil", "all", "repair", "holds", "alone", "holders", "best", "twins", "cost", "torn",
            "leaks", "behind", "room", "feed", "wipe", "run", "keep", "again", "count", "refused");

    private final Due due = new Due();
    private final Trees trees;
    private final CompilationUnitTree unit;
    private final Map<String, Set<String>> calls = new TreeMap<>();
    private final Set<String> library = new TreeSet<>();
    private int classes = 0;
    private String owner = "";
    private String method = "";

    private LanguageTest(Trees trees, CompilationUnitTree unit) {
        this.trees = trees;
        this.unit = unit;
    }

    public static void main(String[] args) throws IOException {
        JavaCompiler javac = ToolProvider.getSystemJavaCompiler();
        try (var files = javac.getStandardFileManager(null, null, null)) {
            JavacTask task = (JavacTask) javac.getTask(null, files, null, List.of("-proc:none"), null,
                    files.getJavaFileObjects(SOURCE));
            CompilationUnitTree unit = task.parse().iterator().next();
            new LanguageTest(Trees.instance(task), unit).go();
        }
    }

    private void go() throws IOException {
        rule(3, "every sign of the source is a plain one",
                Files.readString(SOURCE).chars().allMatch(c -> c < 128));
        rule(1, "no package", unit.getPackageName() == null);
        scan(unit, null);
        rule(11, "some twelve classes at most", classes <= 12);
        for (String call : library) {
            rule(4, call + " is of the library's part", LIBRARY.contains(call));
        }
        for (String name : FACE) {
            due.is("rule 1: the face has " + name, calls.containsKey("TornLayers." + name) ? 1 : 0, 1);
            int depth = depth("TornLayers." + name, new TreeSet<>());
            rule(11, name + " goes " + depth + " deep", depth <= 8);
        }
        due.end();
    }

    private void rule(int number, String what, boolean kept) {
        due.is("rule " + number + ": " + what, kept ? 1 : 0, 1);
    }

    private void never(int number, Tree node) {
        rule(number, "no " + node.getKind() + " at line " + line(node, true), false);
    }

    private long line(Tree node, boolean start) {
        var positions = trees.getSourcePositions();
        long at = start ? positions.getStartPosition(unit, node) : positions.getEndPosition(unit, node);
        return unit.getLineMap().getLineNumber(at);
    }

    /** Methods that stand open at once; one that calls itself is told as far too deep. */
    private int depth(String name, Set<String> open) {
        if (!open.add(name)) {
            return 1000;
        }
        int most = 0;
        for (String called : calls.getOrDefault(name, Set.of())) {
            most = Math.max(most, depth(called, open));
        }
        open.remove(name);
        return 1 + most;
    }

    @Override
    public Void visitImport(ImportTree node, Void none) {
        rule(4, "import of " + node.getQualifiedIdentifier(),
                node.getQualifiedIdentifier().toString().equals("java.util.Arrays"));
        return null;
    }

    @Override
    public Void visitClass(ClassTree node, Void none) {
        classes++;
        String outside = owner;
        owner = node.getSimpleName().toString();
        Set<Modifier> modifiers = node.getModifiers().getFlags();
        rule(1, owner + " is final", modifiers.contains(Modifier.FINAL));
        rule(2, owner + " is static", outside.isEmpty() || modifiers.contains(Modifier.STATIC));
        long fields = node.getMembers().stream().filter(m -> m instanceof VariableTree v
                && !v.getModifiers().getFlags().contains(Modifier.STATIC)).count();
        rule(11, owner + " has some twenty fields at most", fields <= 20);
        for (Tree member : node.getMembers()) {
            if (member instanceof VariableTree field) {
                lookAtField(field, outside.isEmpty());
            }
            rule(5, "no initialiser block", member.getKind() != Tree.Kind.BLOCK);
        }
        super.visitClass(node, none);
        owner = outside;
        return null;
    }

    private void lookAtField(VariableTree field, boolean outer) {
        Set<Modifier> modifiers = field.getModifiers().getFlags();
        String name = field.getName().toString();
        rule(5, name + " is final if static",
                !modifiers.contains(Modifier.STATIC) || modifiers.contains(Modifier.FINAL));
        rule(1, name + " is private",
                !outer || modifiers.contains(Modifier.PRIVATE) || name.equals("NONE"));
    }

    @Override
    public Void visitMethod(MethodTree node, Void none) {
        String name = node.getName().toString();
        Set<Modifier> modifiers = node.getModifiers().getFlags();
        if (modifiers.contains(Modifier.PUBLIC)) {
            rule(1, name + " is of the face", FACE.contains(name) || name.equals("<init>"));
        } else {
            rule(1, name + " has no public one's name", !FACE.contains(name));
            rule(1, name + " is private", modifiers.contains(Modifier.PRIVATE)
                    || !owner.equals("TornLayers"));
        }
        rule(11, name + " takes seven at most", node.getParameters().size() <= 7);
        rule(11, name + " is short", line(node, false) - line(node, true) < 60);
        method = owner + "." + name;
        calls.computeIfAbsent(method, m -> new TreeSet<>());
        super.visitMethod(node, none);
        method = "";
        return null;
    }

    @Override
    public Void visitMethodInvocation(MethodInvocationTree node, Void none) {
        Tree select = node.getMethodSelect();
        if (select instanceof MemberSelectTree member) {
            String on = member.getExpression().toString();
            String name = member.getIdentifier().toString();
            String kind = kindOf(on);
            if (kind.isEmpty()) {
                library.add(on + "." + name);
            } else {
                calls.computeIfAbsent(method, m -> new TreeSet<>()).add(kind + "." + name);
            }
        } else {
            String name = select.toString();
            boolean shared = name.equals("isIn") || name.equals("isCluster");
            String called = (shared ? "TornLayers" : owner) + "." + name;
            calls.computeIfAbsent(method, m -> new TreeSet<>()).add(called);
        }
        return super.visitMethodInvocation(node, none);
    }

    private static String kindOf(String expression) {
        switch (expression) {
            case "now":
            case "kept":
            case "image":
            case "thought.image":
                return "Image";
            case "thought":
                return "Thought";
            case "tape":
                return "Tape";
            default:
                return "";
        }
    }

    @Override
    public Void visitNewClass(NewClassTree node, Void none) {
        rule(12, "objects are made with the object alone", method.isEmpty());
        rule(2, "no class without a name", node.getClassBody() == null);
        return super.visitNewClass(node, none);
    }

    @Override
    public Void visitThrow(ThrowTree node, Void none) {
        never(6, node);
        return null;
    }

    @Override
    public Void visitTry(TryTree node, Void none) {
        never(6, node);
        return null;
    }

    @Override
    public Void visitSynchronized(SynchronizedTree node, Void none) {
        never(6, node);
        return null;
    }

    @Override
    public Void visitAssert(AssertTree node, Void none) {
        never(6, node);
        return null;
    }

    @Override
    public Void visitLambdaExpression(LambdaExpressionTree node, Void none) {
        never(2, node);
        return null;
    }

    @Override
    public Void visitMemberReference(MemberReferenceTree node, Void none) {
        never(2, node);
        return null;
    }
}
