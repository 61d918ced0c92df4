import com.sun.source.tree.AssertTree;
import com.sun.source.tree.ClassTree;
import com.sun.source.tree.CompilationUnitTree;
import com.sun.source.tree.LambdaExpressionTree;
import com.sun.source.tree.MemberReferenceTree;
import com.sun.source.tree.MethodInvocationTree;
import com.sun.source.tree.MethodTree;
import com.sun.source.tree.NewClassTree;
import com.sun.source.tree.SynchronizedTree;
import com.sun.source.tree.ThrowTree;
import com.sun.source.tree.Tree;
import com.sun.source.tree.TryTree;
import com.sun.source.tree.VariableTree;
import com.sun.source.util.JavacTask;
import com.sun.source.util.TreePathScanner;
import com.sun.source.util.Trees;
import java.nio.charset.StandardCharsets;
import java.util.ArrayList;
import java.util.HashSet;
import java.util.LinkedHashMap;
import java.util.LinkedHashSet;
import java.util.List;
import java.util.Map;
import java.util.Set;
import javax.lang.model.element.Element;
import javax.lang.model.element.ExecutableElement;
import javax.lang.model.element.Modifier;
import javax.lang.model.element.NestingKind;
import javax.lang.model.element.TypeElement;
import javax.lang.model.type.ArrayType;
import javax.lang.model.type.TypeMirror;
import javax.tools.JavaCompiler;
import javax.tools.StandardJavaFileManager;
import javax.tools.ToolProvider;

/** Rules of LANGUAGE.md that need the compiler's own tree: what calls what, how deep, which library, which types. */
public final class RulesTest {
    private static final String SOURCE = "src/main/java/ElevenParts.java";
    private static final int DEEPEST = 8;
    /** Rule 4, as far as a class of numbers may want it. */
    private static final Set<String> LIBRARY = Set.of("java.lang.String.length", "java.lang.String.charAt", "java.lang.String.isEmpty",
            "java.lang.String.equals", "java.lang.String.indexOf", "java.lang.String.substring", "java.lang.String.toCharArray",
            "java.lang.Integer.bitCount", "java.lang.Integer.compare", "java.lang.Long.compare", "java.lang.Long.bitCount",
            "java.lang.Math.max", "java.lang.Math.min", "java.lang.Math.abs", "java.lang.Math.floorDiv", "java.lang.Math.floorMod",
            "java.lang.System.arraycopy", "java.util.Arrays.copyOf", "java.util.Arrays.copyOfRange", "java.util.Arrays.fill",
            "java.lang.Object.<init>", "Array.clone");

    private static final List<String> wrong = new ArrayList<>();
    private static final Map<ExecutableElement, Set<ExecutableElement>> calls = new LinkedHashMap<>();

    public static void main(String[] args) throws Exception {
        JavaCompiler compiler = ToolProvider.getSystemJavaCompiler();
        try (StandardJavaFileManager files = compiler.getStandardFileManager(null, null, StandardCharsets.UTF_8)) {
            JavacTask task = (JavacTask) compiler.getTask(null, files, null, List.of("--release", "17", "-proc:none"), null,
                    files.getJavaFileObjects(SOURCE));
            Iterable<? extends CompilationUnitTree> units = task.parse();
            task.analyze();
            Trees trees = Trees.instance(task);
            for (CompilationUnitTree unit : units) new Scanner(trees).scan(unit, null);
        }
        mustBe(calls.size() > 40, "the class has been read: " + calls.size() + " methods");
        recursion();
        depth();
        for (String w : wrong) System.out.println(w);
        System.out.println(wrong.isEmpty() ? calls.size() + " methods keep to the rules" : wrong.size() + " things are outside the rules");
        if (!wrong.isEmpty()) System.exit(1);
    }

    private static void mustBe(boolean holds, String what) { if (!holds) wrong.add(what); }

    private static String name(Element e) { return e.getEnclosingElement() + "." + e; }

    private static boolean isOwn(Element e) {
        Element top = e;
        while (top instanceof ExecutableElement || top instanceof TypeElement t && t.getNestingKind() != NestingKind.TOP_LEVEL) {
            top = top.getEnclosingElement();
        }
        return top.toString().equals("ElevenParts");
    }

    /** All that a method reaches by one call or more. */
    private static Set<ExecutableElement> reached(ExecutableElement from) {
        Set<ExecutableElement> found = new LinkedHashSet<>();
        List<ExecutableElement> open = new ArrayList<>(calls.getOrDefault(from, Set.of()));
        while (!open.isEmpty()) {
            ExecutableElement next = open.remove(open.size() - 1);
            if (found.add(next)) open.addAll(calls.getOrDefault(next, Set.of()));
        }
        return found;
    }

    /** Those that call one another with it; empty, if it does not come back to itself. */
    private static Set<ExecutableElement> circle(ExecutableElement m) {
        Set<ExecutableElement> found = new LinkedHashSet<>();
        for (ExecutableElement other : reached(m)) if (reached(other).contains(m)) found.add(other);
        return found;
    }

    /** Rule 8: "a private static method that calls itself, private methods that call one another", with a depth that is carried. */
    private static void recursion() {
        for (ExecutableElement m : calls.keySet()) {
            Set<ExecutableElement> circle = circle(m);
            if (circle.isEmpty()) continue;
            mustBe(m.getModifiers().contains(Modifier.PRIVATE), "rule 8: " + name(m) + " comes back to itself and is private");
            mustBe(circle.size() > 1 || m.getModifiers().contains(Modifier.STATIC), "rule 8: " + name(m) + " calls itself and is static");
            mustBe(m.getParameters().stream().anyMatch(p -> p.asType().toString().equals("int")), "rule 8: " + name(m) + " carries its depth");
        }
    }

    /** Rule 11: calls that are no recursion go at most eight deep. */
    private static void depth() {
        for (ExecutableElement m : calls.keySet()) {
            List<String> way = deepest(m, new HashSet<>());
            mustBe(way.size() <= DEEPEST, "rule 11: calls go " + way.size() + " deep: " + way);
        }
    }

    private static List<String> deepest(ExecutableElement m, Set<ExecutableElement> open) {
        List<String> best = List.of();
        Set<ExecutableElement> inside = new HashSet<>(open);
        inside.add(m);
        for (ExecutableElement next : calls.getOrDefault(m, Set.of())) {
            if (inside.contains(next)) continue;
            List<String> way = deepest(next, inside);
            if (way.size() > best.size()) best = way;
        }
        List<String> whole = new ArrayList<>(List.of(name(m)));
        whole.addAll(best);
        return whole;
    }

    private static final class Scanner extends TreePathScanner<Void, Void> {
        private final Trees trees;
        private ExecutableElement inside;

        Scanner(Trees trees) { this.trees = trees; }

        private void ruledOut(Tree tree, String rule) { wrong.add("rule " + rule + ": " + tree); }

        private void called(Element e) {
            if (!(e instanceof ExecutableElement m)) {
                wrong.add("rule 4: a call that is not known, in " + inside);
                return;
            }
            if (isOwn(m)) {
                if (inside != null) calls.get(inside).add(m);
                return;
            }
            String told = m.getEnclosingElement() + "." + m.getSimpleName();
            mustBe(LIBRARY.contains(told), "rule 4: " + told + " in " + inside);
        }

        @Override public Void visitClass(ClassTree tree, Void none) {
            TypeElement type = (TypeElement) trees.getElement(getCurrentPath());
            boolean top = type.getNestingKind() == NestingKind.TOP_LEVEL;
            mustBe(top || type.getNestingKind() == NestingKind.MEMBER && type.getModifiers().contains(Modifier.STATIC),
                    "rule 2: " + type + " is a static class inside");
            return super.visitClass(tree, none);
        }

        @Override public Void visitMethod(MethodTree tree, Void none) {
            inside = (ExecutableElement) trees.getElement(getCurrentPath());
            calls.put(inside, new LinkedHashSet<>());
            mustBe(tree.getParameters().size() <= 7, "rule 11: " + name(inside) + " takes seven at most");
            super.visitMethod(tree, none);
            inside = null;
            return null;
        }

        @Override public Void visitMethodInvocation(MethodInvocationTree tree, Void none) {
            called(trees.getElement(getCurrentPath()));
            return super.visitMethodInvocation(tree, none);
        }

        @Override public Void visitNewClass(NewClassTree tree, Void none) {
            called(trees.getElement(getCurrentPath()));
            return super.visitNewClass(tree, none);
        }

        @Override public Void visitVariable(VariableTree tree, Void none) {
            Element e = trees.getElement(getCurrentPath());
            TypeMirror type = e.asType();
            for (int i = 0; i < 2 && type instanceof ArrayType array; i++) type = array.getComponentType();
            String told = type.toString();
            mustBe(type.getKind().isPrimitive() || told.equals("java.lang.String") || told.startsWith("ElevenParts."),
                    "rule 3: " + tree + " is a " + told);
            return super.visitVariable(tree, none);
        }

        @Override public Void visitThrow(ThrowTree tree, Void none) { ruledOut(tree, "6"); return null; }

        @Override public Void visitTry(TryTree tree, Void none) { ruledOut(tree, "6"); return null; }

        @Override public Void visitAssert(AssertTree tree, Void none) { ruledOut(tree, "6"); return null; }

        @Override public Void visitSynchronized(SynchronizedTree tree, Void none) { ruledOut(tree, "6"); return null; }

        @Override public Void visitLambdaExpression(LambdaExpressionTree tree, Void none) { ruledOut(tree, "2"); return null; }

        @Override public Void visitMemberReference(MemberReferenceTree tree, Void none) { ruledOut(tree, "2"); return null; }
    }
}
