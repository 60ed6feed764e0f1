import com.sun.source.tree.AssertTree;
import com.sun.source.tree.BinaryTree;
import com.sun.source.tree.ClassTree;
import com.sun.source.tree.CompilationUnitTree;
import com.sun.source.tree.CompoundAssignmentTree;
import com.sun.source.tree.ConditionalExpressionTree;
import com.sun.source.tree.DoWhileLoopTree;
import com.sun.source.tree.ExpressionTree;
import com.sun.source.tree.ForLoopTree;
import com.sun.source.tree.IfTree;
import com.sun.source.tree.LambdaExpressionTree;
import com.sun.source.tree.MemberReferenceTree;
import com.sun.source.tree.MemberSelectTree;
import com.sun.source.tree.MethodInvocationTree;
import com.sun.source.tree.MethodTree;
import com.sun.source.tree.NewArrayTree;
import com.sun.source.tree.NewClassTree;
import com.sun.source.tree.SynchronizedTree;
import com.sun.source.tree.ThrowTree;
import com.sun.source.tree.Tree;
import com.sun.source.tree.TryTree;
import com.sun.source.tree.TypeCastTree;
import com.sun.source.tree.VariableTree;
import com.sun.source.tree.WhileLoopTree;
import com.sun.source.util.JavacTask;
import com.sun.source.util.TreePath;
import com.sun.source.util.TreePathScanner;
import com.sun.source.util.Trees;
import java.io.IOException;
import java.net.URI;
import java.nio.file.Files;
import java.nio.file.Path;
import java.util.ArrayList;
import java.util.HashMap;
import java.util.HashSet;
import java.util.List;
import java.util.Map;
import java.util.Set;
import java.util.TreeSet;
import javax.lang.model.element.Element;
import javax.lang.model.element.ElementKind;
import javax.lang.model.element.ExecutableElement;
import javax.lang.model.element.Modifier;
import javax.lang.model.element.TypeElement;
import javax.lang.model.element.VariableElement;
import javax.lang.model.type.ArrayType;
import javax.lang.model.type.DeclaredType;
import javax.lang.model.type.TypeKind;
import javax.lang.model.type.TypeMirror;
import javax.tools.JavaCompiler;
import javax.tools.JavaFileObject;
import javax.tools.SimpleJavaFileObject;
import javax.tools.ToolProvider;

/** Holds the class to the rules of LANGUAGE.md as the compiler itself understands its text; each rule is tried on a text that breaks it. */
public final class RulesTest {
    private static int wrong = 0;

    public static void main(String[] args) throws IOException {
        String source = Files.readString(Path.of("src/main/java/MouldThatComesOff.java"));
        for (String fault : faultsOf(source)) fault("MouldThatComesOff.java: " + fault);
        int tried = tryRules();
        System.out.println(tried + " texts that break a rule tried, " + wrong + " faults");
        if (wrong != 0) System.exit(1);
    }

    private static void fault(String what) {
        wrong++;
        System.out.println(what);
    }

    // ---- the rules tried on texts that break them ----

    private static int tryRules() throws IOException {
        String fine = "private static final int SIX = 6; private final int[] row = new int[SIX]; private int at = 0;"
            + " public int half(int d) { return d == 0 ? 0 : at / d; } private int deep(int k) { return row[k & 3]; }";
        for (String fault : faultsOf(whole(fine))) fault("a text that breaks no rule: " + fault);
        String[][] broken = {
            {"throw", "public int a() { throw new IllegalArgumentException(); }"},
            {"try", "public int a() { try { return 1; } finally { at = 2; } } private int at = 0;"},
            {"synchronized", "public int a() { synchronized (this) { return 1; } }"},
            {"assert", "public int a() { assert true; return 1; }"},
            {"lambda", "public int a() { Runnable r = () -> { }; return 1; }"},
            {"method reference", "public int a() { Runnable r = System::gc; return 1; }"},
            {"anonymous", "public int a() { Object o = new Object() { }; return 1; }"},
            {"local class", "public int a() { class B { } return 1; }"},
            {"inner class", "private class B { }"},
            {"public class inside", "public static class B { }"},
            {"type", "public int a() { Object o = null; return 1; }"},
            {"type", "private final String[] names = null;"},
            {"type", "private final int[][][] cube = null;"},
            {"type", "private double part = 0;"},
            {"library", "public int a(int x) { return Math.addExact(x, 1); }"},
            {"library", "public int a(String s) { return s.trim().length(); }"},
            {"library", "public int a() { return new int[0].hashCode(); }"},
            {"library", "public int a() { System.out.println(); return 1; }"},
            {"static field", "private static int count = 0;"},
            {"static block", "private static final int A; static { A = 1; }"},
            {"divisor", "public int a(int x) { return 1 / x; }"},
            {"divisor", "public int a(int x) { return x > 2 ? 1 % x : 0; }"},
            {"divisor", "private int at = 9; public int a(int x) { at /= x; return at; }"},
            {"length", "public MouldThatComesOff(int n) { row = new int[n]; } private final int[] row;"},
            {"cast", "public int a(B b) { C c = (C) b; return 1; } static class B { } static final class C extends B { }"},
            {"made in a call", "public int a() { int[] r = new int[3]; return r[0]; }"},
            {"made in a call", "public int a() { B b = new B(); return 1; } static final class B { }"},
            {"recursion", "public int a() { return b(1); } private int b(int k) { return c(k); } private int c(int k) { return k == 0 ? 0 : b(k - 1); }"},
            {"deep", "public int a() { return b(); } private int b() { return c(); } private int c() { return d(); } private int d() { return e(); }"
                + " private int e() { return f(); } private int f() { return g(); } private int g() { return h(); } private int h() { return i(); } private int i() { return 1; }"},
            {"loop", "public int a() { for (int k = 0; ; k++) { if (k > 5) return k; } }"},
            {"loop", "public int a(int x) { while (x != 0) { x = x >> 1; } return x; }"},
            {"loop", "public int a(int x) { for (int k = 0; k < 3; ) { k += x; } return x; }"},
            {"texts joined", "public int a() { String s = \"a\" + 1; return 1; }"},
            {"texts compared", "public boolean a(String s, String t) { return s == t; }"},
            {"parameters", "public int a(int b, int c, int d, int e, int f, int g, int h, int i) { return 1; }"},
            {"sixty lines", "public int a() {\n" + "at++;\n".repeat(60) + "return at; } private int at = 0;"},
            {"twenty fields", fields(21)},
            {"twelve classes", classes(12)},
            {"package line", null},
        };
        for (String[] b : broken) {
            String source = b[1] == null ? "package p; " + whole("") : whole(b[1]);
            boolean found = false;
            for (String fault : faultsOf(source)) found |= fault.contains(b[0]);
            if (!found) fault("not seen: " + b[0] + " in " + b[1]);
        }
        return broken.length;
    }

    private static String whole(String inside) {
        return "import java.util.Arrays; public final class MouldThatComesOff { " + inside + " }";
    }

    private static String fields(int n) {
        StringBuilder t = new StringBuilder();
        for (int k = 0; k < n; k++) t.append("private int f").append(k).append(" = 0; ");
        return t.toString();
    }

    private static String classes(int n) {
        StringBuilder t = new StringBuilder();
        for (int k = 0; k < n; k++) t.append("private static final class C").append(k).append(" { } ");
        return t.toString();
    }

    // ---- a text looked at ----

    private static List<String> faultsOf(String source) throws IOException {
        JavaCompiler compiler = ToolProvider.getSystemJavaCompiler();
        JavaFileObject file = new SimpleJavaFileObject(URI.create("string:///MouldThatComesOff.java"), JavaFileObject.Kind.SOURCE) {
            @Override public CharSequence getCharContent(boolean ignore) { return source; }
        };
        List<String> faults = new ArrayList<>();
        JavacTask task = (JavacTask) compiler.getTask(null, null, d -> {
            if (d.getKind() == javax.tools.Diagnostic.Kind.ERROR) faults.add("the compiler says " + d.getMessage(null));
        }, List.of("-proc:none"), null, List.of(file));
        Iterable<? extends CompilationUnitTree> units = task.parse();
        task.analyze();
        for (CompilationUnitTree unit : units) {
            Look look = new Look(Trees.instance(task), unit, faults);
            look.scan(unit, null);
            look.finish();
        }
        return faults;
    }

    private static final class Look extends TreePathScanner<Void, Void> {
        private static final Map<String, Set<String>> LIBRARY = Map.of(
            "java.lang.Object", Set.of("<init>"),
            "java.lang.String", Set.of("length", "charAt", "isEmpty", "equals", "indexOf", "substring", "toCharArray", "<init>"),
            "java.lang.StringBuilder", Set.of("append", "charAt", "setCharAt", "setLength", "deleteCharAt", "reverse", "length", "toString", "<init>"),
            "java.lang.Integer", Set.of("compare", "max", "min", "bitCount"),
            "java.lang.Long", Set.of("compare", "max", "min", "bitCount"),
            "java.lang.Math", Set.of("max", "min", "abs", "floorDiv", "floorMod"),
            "java.lang.System", Set.of("arraycopy"),
            "java.util.Arrays", Set.of("copyOf", "copyOfRange", "fill"));
        private static final Set<TypeKind> NUMBERS = Set.of(TypeKind.INT, TypeKind.LONG, TypeKind.SHORT, TypeKind.BYTE, TypeKind.CHAR, TypeKind.BOOLEAN);
        private static final String OWN = "MouldThatComesOff";
        private static final int MOST_DEEP = 8;

        private final Trees trees;
        private final CompilationUnitTree unit;
        private final List<String> faults;
        private final Map<String, Set<String>> calls = new HashMap<>();
        private final Set<String> open = new TreeSet<>();
        private String inside = "";
        private boolean making = false;
        private int classCount = 0;

        Look(Trees trees, CompilationUnitTree unit, List<String> faults) {
            this.trees = trees;
            this.unit = unit;
            this.faults = faults;
            if (unit.getPackageName() != null) faults.add("a package line");
        }

        private long lineOf(long position) { return unit.getLineMap().getLineNumber(position); }

        private void fault(String what, Tree at) {
            faults.add("line " + lineOf(trees.getSourcePositions().getStartPosition(unit, at)) + ": " + what);
        }

        private Element elementOf(Tree t) { return trees.getElement(new TreePath(getCurrentPath(), t)); }
        private TypeMirror typeOf(Tree t) { return trees.getTypeMirror(new TreePath(getCurrentPath(), t)); }

        // ---- what there is none of ----

        @Override public Void visitThrow(ThrowTree t, Void v) { fault("throw", t); return super.visitThrow(t, v); }
        @Override public Void visitTry(TryTree t, Void v) { fault("try", t); return super.visitTry(t, v); }
        @Override public Void visitSynchronized(SynchronizedTree t, Void v) { fault("synchronized", t); return super.visitSynchronized(t, v); }
        @Override public Void visitAssert(AssertTree t, Void v) { fault("assert", t); return super.visitAssert(t, v); }
        @Override public Void visitLambdaExpression(LambdaExpressionTree t, Void v) { fault("lambda", t); return null; }
        @Override public Void visitMemberReference(MemberReferenceTree t, Void v) { fault("method reference", t); return null; }

        // ---- classes, methods, variables ----

        @Override public Void visitClass(ClassTree t, Void v) {
            Tree around = getCurrentPath().getParentPath().getLeaf();
            Set<Modifier> modifiers = t.getModifiers().getFlags();
            classCount++;
            if (t.getSimpleName().length() == 0) fault("anonymous class", t);
            else if (!(around instanceof ClassTree) && !(around instanceof CompilationUnitTree)) fault("local class", t);
            else if (around instanceof ClassTree) {
                if (!modifiers.contains(Modifier.STATIC)) fault("inner class", t);
                if (modifiers.contains(Modifier.PUBLIC)) fault("public class inside", t);
            }
            int fields = 0;
            for (Tree member : t.getMembers()) {
                if (member.getKind() == Tree.Kind.BLOCK) fault("static block or block of an object", member);
                boolean isField = member instanceof VariableTree;
                if (isField && !((VariableTree) member).getModifiers().getFlags().contains(Modifier.STATIC)) fields++;
            }
            if (fields > 20) fault("more than twenty fields", t);
            String was = inside;
            boolean wasMaking = making;
            inside = t.getSimpleName() + ".<init>";
            making = true;
            super.visitClass(t, v);
            inside = was;
            making = wasMaking;
            return null;
        }

        private String keyOf(ExecutableElement e) {
            String owner = e.getEnclosingElement().getSimpleName().toString();
            boolean constructor = e.getKind() == ElementKind.CONSTRUCTOR;
            return constructor ? owner + ".<init>" : owner + "." + e;
        }

        @Override public Void visitMethod(MethodTree t, Void v) {
            ExecutableElement e = (ExecutableElement) trees.getElement(getCurrentPath());
            if (t.getParameters().size() > 7) fault("more than seven parameters", t);
            long first = lineOf(trees.getSourcePositions().getStartPosition(unit, t));
            long end = trees.getSourcePositions().getEndPosition(unit, t);
            if (end >= 0 && lineOf(end) - first >= 60) fault("more than sixty lines", t);
            if (e.getReturnType().getKind() != TypeKind.VOID) lookAtType(e.getReturnType(), t);
            String was = inside;
            boolean wasMaking = making;
            inside = keyOf(e);
            making = e.getKind() == ElementKind.CONSTRUCTOR;
            calls.computeIfAbsent(inside, k -> new TreeSet<>());
            if (e.getModifiers().contains(Modifier.PUBLIC)) open.add(inside);
            super.visitMethod(t, v);
            inside = was;
            making = wasMaking;
            return null;
        }

        @Override public Void visitVariable(VariableTree t, Void v) {
            lookAtType(trees.getTypeMirror(getCurrentPath()), t);
            Element e = trees.getElement(getCurrentPath());
            boolean isStatic = e.getModifiers().contains(Modifier.STATIC);
            if (isStatic && e instanceof VariableElement && ((VariableElement) e).getConstantValue() == null) fault("static field that is no constant", t);
            return super.visitVariable(t, v);
        }

        private void lookAtType(TypeMirror type, Tree at) {
            if (!isFine(type)) fault("type " + type, at);
        }

        private boolean isFine(TypeMirror type) {
            if (NUMBERS.contains(type.getKind())) return true;
            if (type instanceof ArrayType) {
                TypeMirror of = ((ArrayType) type).getComponentType();
                if (of instanceof ArrayType) return NUMBERS.contains(((ArrayType) of).getComponentType().getKind());
                return NUMBERS.contains(of.getKind()) || isOwn(of);
            }
            return isOwn(type) || type.toString().equals("java.lang.String") || type.toString().equals("java.lang.StringBuilder");
        }

        private boolean isOwn(TypeMirror type) {
            return type instanceof DeclaredType && isOwn(((DeclaredType) type).asElement());
        }

        private boolean isOwn(Element e) {
            Element at = e;
            while (at != null && !(at instanceof TypeElement && at.getEnclosingElement().getKind() == ElementKind.PACKAGE)) at = at.getEnclosingElement();
            return at != null && at.getSimpleName().contentEquals(OWN);
        }

        // ---- calls, and what is made ----

        @Override public Void visitMethodInvocation(MethodInvocationTree t, Void v) {
            lookAtCall(elementOf(t.getMethodSelect()), t);
            return super.visitMethodInvocation(t, v);
        }

        private void lookAtCall(Element e, Tree at) {
            if (!(e instanceof ExecutableElement)) {
                fault("library: a call of what is not known", at);
            } else if (isOwn(e)) {
                calls.computeIfAbsent(inside, k -> new TreeSet<>()).add(keyOf((ExecutableElement) e));
            } else {
                String owner = e.getEnclosingElement().toString();
                boolean known = LIBRARY.getOrDefault(owner, Set.of()).contains(e.getSimpleName().toString());
                if (!known) fault("library: " + owner + "." + e.getSimpleName(), at);
            }
        }

        @Override public Void visitNewClass(NewClassTree t, Void v) {
            lookAtCall(trees.getElement(getCurrentPath()), t);
            if (!making) fault("made in a call", t);
            return super.visitNewClass(t, v);
        }

        @Override public Void visitNewArray(NewArrayTree t, Void v) {
            if (!making) fault("made in a call", t);
            for (ExpressionTree d : t.getDimensions()) if (!isConstant(d)) fault("length that is no constant", t);
            return super.visitNewArray(t, v);
        }

        private boolean isConstant(ExpressionTree t) {
            if (t instanceof BinaryTree) return isConstant(((BinaryTree) t).getLeftOperand()) && isConstant(((BinaryTree) t).getRightOperand());
            if (t.getKind() == Tree.Kind.INT_LITERAL) return true;
            Element e = elementOf(t);
            return e instanceof VariableElement && ((VariableElement) e).getConstantValue() != null;
        }

        @Override public Void visitMemberSelect(MemberSelectTree t, Void v) {
            Element e = trees.getElement(getCurrentPath());
            boolean field = e != null && e.getKind() == ElementKind.FIELD && !isOwn(e);
            if (field && !t.getIdentifier().contentEquals("length")) fault("library: the field " + t, t);
            return super.visitMemberSelect(t, v);
        }

        @Override public Void visitTypeCast(TypeCastTree t, Void v) {
            if (!NUMBERS.contains(typeOf(t.getType()).getKind())) fault("cast of a reference", t);
            return super.visitTypeCast(t, v);
        }

        // ---- expressions ----

        @Override public Void visitBinary(BinaryTree t, Void v) {
            Tree.Kind kind = t.getKind();
            if (kind == Tree.Kind.DIVIDE || kind == Tree.Kind.REMAINDER) lookAtDivisor(t.getRightOperand(), t);
            if (kind == Tree.Kind.PLUS && isText(trees.getTypeMirror(getCurrentPath()))) fault("texts joined by +", t);
            boolean compares = kind == Tree.Kind.EQUAL_TO || kind == Tree.Kind.NOT_EQUAL_TO;
            if (compares && isText(typeOf(t.getLeftOperand())) && isText(typeOf(t.getRightOperand()))) fault("texts compared by ==", t);
            return super.visitBinary(t, v);
        }

        @Override public Void visitCompoundAssignment(CompoundAssignmentTree t, Void v) {
            Tree.Kind kind = t.getKind();
            if (kind == Tree.Kind.DIVIDE_ASSIGNMENT || kind == Tree.Kind.REMAINDER_ASSIGNMENT) lookAtDivisor(t.getExpression(), t);
            if (kind == Tree.Kind.PLUS_ASSIGNMENT && isText(typeOf(t.getVariable()))) fault("texts joined by +=", t);
            return super.visitCompoundAssignment(t, v);
        }

        private static boolean isText(TypeMirror type) {
            return type != null && type.toString().equals("java.lang.String");
        }

        /** A divisor is compared with 0 by an if or a ?: around it. */
        private void lookAtDivisor(ExpressionTree divisor, Tree at) {
            boolean seen = false;
            for (TreePath p = getCurrentPath(); p != null; p = p.getParentPath()) {
                Tree around = p.getLeaf();
                ExpressionTree condition = null;
                if (around instanceof IfTree) condition = ((IfTree) around).getCondition();
                if (around instanceof ConditionalExpressionTree) condition = ((ConditionalExpressionTree) around).getCondition();
                if (condition != null) seen |= condition.toString().matches(".*\\b" + divisor + " (==|!=|>) 0\\b.*");
            }
            if (!seen) fault("divisor that is not looked at", at);
        }

        // ---- loops ----

        @Override public Void visitForLoop(ForLoopTree t, Void v) {
            boolean bound = t.getCondition() != null && t.getCondition().toString().matches(".*[<>].*");
            if (!bound || t.getUpdate().isEmpty()) fault("loop without an end that can be seen", t);
            return super.visitForLoop(t, v);
        }

        @Override public Void visitWhileLoop(WhileLoopTree t, Void v) {
            if (!t.getCondition().toString().matches(".*\\w < \\w.*")) fault("loop without a counter against a bound", t);
            return super.visitWhileLoop(t, v);
        }

        @Override public Void visitDoWhileLoop(DoWhileLoopTree t, Void v) {
            if (!t.getCondition().toString().matches(".*\\w < \\w.*")) fault("loop without a counter against a bound", t);
            return super.visitDoWhileLoop(t, v);
        }

        // ---- how deep calls go ----

        void finish() {
            if (classCount > 12) faults.add("more than twelve classes");
            for (String method : open) {
                int deep = deepest(method, new HashSet<>());
                if (deep > MOST_DEEP) faults.add(method + " goes " + deep + " calls deep");
            }
            for (String method : calls.keySet()) if (leadsTo(method, method, new HashSet<>())) faults.add("recursion: " + method);
        }

        private int deepest(String method, Set<String> above) {
            int most = 0;
            if (!above.add(method)) return 0;
            for (String next : calls.getOrDefault(method, Set.of())) most = Math.max(most, deepest(next, above));
            above.remove(method);
            return most + 1;
        }

        private boolean leadsTo(String from, String to, Set<String> seen) {
            for (String next : calls.getOrDefault(from, Set.of())) {
                if (next.equals(to) || seen.add(next) && leadsTo(next, to, seen)) return true;
            }
            return false;
        }
    }
}
