import com.sun.source.tree.*;
import com.sun.source.util.JavacTask;
import com.sun.source.util.TreePath;
import com.sun.source.util.TreePathScanner;
import com.sun.source.util.Trees;
import java.io.File;
import java.util.ArrayList;
import java.util.HashMap;
import java.util.HashSet;
import java.util.LinkedHashMap;
import java.util.LinkedHashSet;
import java.util.List;
import java.util.Map;
import java.util.Set;
import javax.lang.model.element.Element;
import javax.lang.model.element.ElementKind;
import javax.lang.model.element.ExecutableElement;
import javax.lang.model.element.Modifier;
import javax.tools.JavaCompiler;
import javax.tools.StandardJavaFileManager;
import javax.tools.ToolProvider;

/** What of ../shared/LANGUAGE.md can be seen in the tree of src/main/java/LastInBox.java, told by its rules' numbers. */
public final class LanguageCheck {
    private static final Set<String> FACE = Set.of("worth", "ticket", "box", "as", "lay", "empty", "coin", "person", "personIs",
        "give", "feed", "text", "untell", "go", "stranger", "draws", "seed", "change", "dear", "get", "order", "dawn", "wrong",
        "again", "must", "tally", "voice", "body", "sheet", "put", "move", "lays", "image", "restore", "tell", "check", "count",
        "told");
    private static final Set<String> LIBRARY = Set.of("java.lang.String.length", "java.lang.String.charAt",
        "java.lang.String.isEmpty", "java.lang.String.equals", "java.lang.String.indexOf", "java.lang.String.substring",
        "java.lang.String.toCharArray", "java.lang.Math.min", "java.lang.Math.max", "java.lang.Math.abs",
        "java.lang.Math.floorDiv", "java.lang.Math.floorMod", "java.lang.System.arraycopy", "java.util.Arrays.copyOf",
        "java.util.Arrays.copyOfRange", "java.util.Arrays.fill", "java.lang.Object.<init>");
    private static final Set<String> TYPES = Set.of("int", "long", "short", "byte", "char", "boolean", "void", "int[]", "long[]",
        "byte[]", "char[]", "boolean[]", "int[][]", "java.lang.String");
    private static int wrong;

    private final CompilationUnitTree unit;
    private final Trees trees;
    private final Map<String, Set<String>> calls = new LinkedHashMap<>();
    private final Map<String, Integer> fields = new HashMap<>();
    private int classes;

    private LanguageCheck(CompilationUnitTree unit, Trees trees) {
        this.unit = unit;
        this.trees = trees;
    }

    private void fault(int rule, Tree at, String says) {
        wrong++;
        long line = unit.getLineMap().getLineNumber(trees.getSourcePositions().getStartPosition(unit, at));
        System.out.println("LANGUAGE.md, rule " + rule + ", line " + line + ": " + says);
    }

    private static String named(ExecutableElement method) {
        return method.getEnclosingElement() + "." + method.getSimpleName();
    }

    private final class Scanner extends TreePathScanner<Void, String> {
        @Override public Void visitClass(ClassTree tree, String in) {
            classes++;
            Element element = trees.getElement(getCurrentPath());
            boolean outer = element.getEnclosingElement().getKind() == ElementKind.PACKAGE;
            Set<Modifier> is = element.getModifiers();
            if (outer && !(is.contains(Modifier.PUBLIC) && is.contains(Modifier.FINAL))) {
                fault(1, tree, "the class is not public and final");
            }
            if (!outer && (is.contains(Modifier.PUBLIC) || is.contains(Modifier.PROTECTED) || !is.contains(Modifier.STATIC))) {
                fault(2, tree, "a class inside that is not static, or more than package-visible");
            }
            return super.visitClass(tree, in);
        }

        @Override public Void visitMethod(MethodTree tree, String in) {
            ExecutableElement method = (ExecutableElement) trees.getElement(getCurrentPath());
            String name = method.getSimpleName().toString();
            boolean outer = method.getEnclosingElement().getSimpleName().contentEquals("LastInBox");
            boolean open = method.getModifiers().contains(Modifier.PUBLIC);
            if (outer && !open && !method.getModifiers().contains(Modifier.PRIVATE)) {
                fault(1, tree, name + " is neither of the face nor private");
            }
            if (!name.equals("<init>") && FACE.contains(name) != (outer && open)) {
                fault(1, tree, name + " is a name of the face, or lacks there");
            }
            if (tree.getParameters().size() > 7) {
                fault(11, tree, name + " takes more than seven parameters");
            }
            LineMap lines = unit.getLineMap();
            long from = lines.getLineNumber(trees.getSourcePositions().getStartPosition(unit, tree));
            long to = lines.getLineNumber(Math.max(0, trees.getSourcePositions().getEndPosition(unit, tree)));
            if (to - from > 60) {
                fault(11, tree, name + " is " + (to - from) + " lines long");
            }
            calls.put(named(method), new LinkedHashSet<>());
            return super.visitMethod(tree, named(method));
        }

        @Override public Void visitVariable(VariableTree tree, String in) {
            Element element = trees.getElement(getCurrentPath());
            String type = element.asType().toString();
            boolean own = type.replace("[]", "").startsWith("LastInBox") && !type.contains("[][]");
            if (!own && !TYPES.contains(type)) {
                fault(3, tree, "a variable of type " + type);
            }
            if (element.getKind() == ElementKind.FIELD) {
                Set<Modifier> is = element.getModifiers();
                if (is.contains(Modifier.STATIC) && (!is.contains(Modifier.FINAL) || tree.getInitializer() == null || own)) {
                    fault(5, tree, "a static field that is no constant");
                }
                if (!is.contains(Modifier.STATIC)) {
                    fields.merge(element.getEnclosingElement().toString(), 1, Integer::sum);
                }
                if (element.getEnclosingElement().getSimpleName().contentEquals("LastInBox") && !is.contains(Modifier.PRIVATE)) {
                    fault(1, tree, "a field that is not private");
                }
            }
            return super.visitVariable(tree, in);
        }

        @Override public Void visitMethodInvocation(MethodInvocationTree tree, String in) {
            called(tree, in);
            return super.visitMethodInvocation(tree, in);
        }

        @Override public Void visitNewClass(NewClassTree tree, String in) {
            if (tree.getClassBody() != null) {
                fault(2, tree, "an anonymous class");
            }
            called(tree, in);
            return super.visitNewClass(tree, in);
        }

        private void called(Tree tree, String in) {
            Element element = trees.getElement(getCurrentPath());
            if (!(element instanceof ExecutableElement method)) {
                return;
            }
            String name = named(method);
            if (name.startsWith("LastInBox")) {
                if (in != null) {
                    calls.get(in).add(name);
                }
            } else if (!LIBRARY.contains(name)) {
                fault(4, tree, name + " is not in the library");
            }
        }

        @Override public Void visitBinary(BinaryTree tree, String in) {
            String left = typeOf(tree.getLeftOperand());
            String right = typeOf(tree.getRightOperand());
            boolean text = left.equals("java.lang.String") || right.equals("java.lang.String");
            if (text && tree.getKind() == Tree.Kind.PLUS) {
                fault(10, tree, "texts joined by +");
            }
            if (text && (tree.getKind() == Tree.Kind.EQUAL_TO || tree.getKind() == Tree.Kind.NOT_EQUAL_TO)) {
                fault(6, tree, "== of texts");
            }
            return super.visitBinary(tree, in);
        }

        private String typeOf(Tree tree) {
            return String.valueOf(trees.getTypeMirror(new TreePath(getCurrentPath(), tree)));
        }

        @Override public Void visitThrow(ThrowTree tree, String in) {
            fault(6, tree, "throw");
            return null;
        }

        @Override public Void visitTry(TryTree tree, String in) {
            fault(6, tree, "try");
            return null;
        }

        @Override public Void visitSynchronized(SynchronizedTree tree, String in) {
            fault(6, tree, "synchronized");
            return null;
        }

        @Override public Void visitAssert(AssertTree tree, String in) {
            fault(6, tree, "assert");
            return null;
        }

        @Override public Void visitLambdaExpression(LambdaExpressionTree tree, String in) {
            fault(2, tree, "a lambda");
            return null;
        }

        @Override public Void visitMemberReference(MemberReferenceTree tree, String in) {
            fault(2, tree, "a method reference");
            return null;
        }
    }

    /** The longest row of calls, all methods that call one another being one step. */
    private void deep() {
        Map<String, Set<String>> reach = new HashMap<>();
        for (String method : calls.keySet()) {
            Set<String> seen = new HashSet<>();
            List<String> next = new ArrayList<>(calls.get(method));
            while (!next.isEmpty()) {
                String at = next.remove(next.size() - 1);
                if (seen.add(at)) {
                    next.addAll(calls.getOrDefault(at, Set.of()));
                }
            }
            reach.put(method, seen);
        }
        Map<String, Integer> depths = new HashMap<>();
        for (String method : calls.keySet()) {
            int depth = depthOf(method, reach, depths);
            if (depth > 8) {
                wrong++;
                System.out.println("LANGUAGE.md, rule 11: calls from " + method + " go " + depth + " deep");
            }
        }
    }

    private int depthOf(String method, Map<String, Set<String>> reach, Map<String, Integer> depths) {
        if (depths.containsKey(method)) {
            return depths.get(method);
        }
        int below = 0;
        Set<String> ring = new LinkedHashSet<>(List.of(method));
        for (String other : reach.get(method)) {
            if (reach.getOrDefault(other, Set.of()).contains(method)) {
                ring.add(other);
            }
        }
        for (String one : ring) {
            for (String to : calls.getOrDefault(one, Set.of())) {
                if (!ring.contains(to) && calls.containsKey(to)) {
                    below = Math.max(below, depthOf(to, reach, depths));
                }
            }
        }
        for (String one : ring) {
            depths.put(one, below + 1);
        }
        return below + 1;
    }

    private void sizes() {
        if (classes > 12) {
            wrong++;
            System.out.println("LANGUAGE.md, rule 11: " + classes + " classes");
        }
        fields.forEach((name, count) -> {
            if (count > 20) {
                wrong++;
                System.out.println("LANGUAGE.md, rule 11: " + name + " has " + count + " fields");
            }
        });
        for (String name : FACE) {
            if (!calls.containsKey("LastInBox." + name)) {
                wrong++;
                System.out.println("LANGUAGE.md, rule 1: " + name + " is missing");
            }
        }
    }

    public static void main(String[] args) throws Exception {
        JavaCompiler compiler = ToolProvider.getSystemJavaCompiler();
        StandardJavaFileManager files = compiler.getStandardFileManager(null, null, null);
        JavacTask task = (JavacTask) compiler.getTask(null, files, null, List.of("-proc:none"), null,
            files.getJavaFileObjects(new File(args.length > 0 ? args[0] : "src/main/java/LastInBox.java")));
        CompilationUnitTree unit = task.parse().iterator().next();
        task.analyze();
        LanguageCheck check = new LanguageCheck(unit, Trees.instance(task));
        check.new Scanner().scan(unit, null);
        check.deep();
        check.sizes();
        System.out.println(wrong == 0 ? "LanguageCheck: no rule is broken that it sees" : wrong + " faults");
        if (wrong != 0) {
            System.exit(1);
        }
    }
}
