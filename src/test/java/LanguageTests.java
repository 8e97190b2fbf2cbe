import com.sun.source.tree.AnnotatedTypeTree;
import com.sun.source.tree.AssertTree;
import com.sun.source.tree.BinaryTree;
import com.sun.source.tree.ClassTree;
import com.sun.source.tree.CompilationUnitTree;
import com.sun.source.tree.DoWhileLoopTree;
import com.sun.source.tree.ExpressionTree;
import com.sun.source.tree.ForLoopTree;
import com.sun.source.tree.InstanceOfTree;
import com.sun.source.tree.LambdaExpressionTree;
import com.sun.source.tree.MemberReferenceTree;
import com.sun.source.tree.MethodInvocationTree;
import com.sun.source.tree.MethodTree;
import com.sun.source.tree.NewArrayTree;
import com.sun.source.tree.NewClassTree;
import com.sun.source.tree.SynchronizedTree;
import com.sun.source.tree.ThrowTree;
import com.sun.source.tree.Tree;
import com.sun.source.tree.TryTree;
import com.sun.source.tree.TypeCastTree;
import com.sun.source.tree.VariableTree;
import com.sun.source.tree.WhileLoopTree;
import com.sun.source.util.JavacTask;
import com.sun.source.util.TreePath;
import com.sun.source.util.TreePathScanner;
import com.sun.source.util.Trees;
import java.io.File;
import java.lang.reflect.Constructor;
import java.lang.reflect.Field;
import java.lang.reflect.Method;
import java.lang.reflect.Modifier;
import java.util.ArrayList;
import java.util.HashMap;
import java.util.HashSet;
import java.util.List;
import java.util.Map;
import java.util.Set;
import java.util.TreeSet;
import javax.lang.model.element.Element;
import javax.lang.model.element.ExecutableElement;
import javax.tools.JavaCompiler;
import javax.tools.ToolProvider;

/** The rules of LANGUAGE.md that a machine can look at, and the room that the calls take. */
public final class LanguageTests {
    private static final Set<String> FACE = Set.of("roof(int,int,int):int", "apprentice(int):int",
        "master(int,boolean):int", "on(int,int):boolean", "below(int,int):boolean", "gear(int,int,boolean):boolean",
        "snow(int,boolean):boolean", "feed(int,int,int,int,int):int", "law(int):int", "hours(int):int",
        "hour(int):int", "roofIs(int,int):int", "apprenticeIs(int,int):int", "masterIs(int,int):int",
        "tried(int,int):int", "set(int,int,int,int):int", "free(int,int,int):int", "worth(int,int,int):int",
        "lent(int,int):int", "letGo(int,int,int):int", "settled(int):int", "owes(int,int,int):int",
        "teachers(int):int", "chain(int,int,int):int", "odds(int,int,int,int):int", "seed(int):boolean",
        "keep():int", "undo():boolean", "check(int):int", "count(int):int");
    private static final Set<String> LIBRARY = Set.of("indexOf", "min", "max", "bitCount", "arraycopy");

    private static int wrong = 0;

    public static void main(String[] args) throws Exception {
        face();
        source();
        room();
        System.out.println(wrong == 0 ? "within the rules" : wrong + " beyond the rules");
        if (wrong != 0) {
            System.exit(1);
        }
    }

    private static void look(boolean isRight, String told) {
        if (!isRight) {
            wrong++;
            System.out.println(told);
        }
    }

    private static void face() {
        Class<?> type = SlateSchool.class;
        look(Modifier.isPublic(type.getModifiers()) && Modifier.isFinal(type.getModifiers()), "rule 1: public final");
        Set<String> found = new TreeSet<>();
        Set<String> names = new HashSet<>();
        for (Method m : type.getDeclaredMethods()) {
            if (!Modifier.isPrivate(m.getModifiers())) {
                StringBuilder face = new StringBuilder(m.getName() + "(");
                for (Class<?> p : m.getParameterTypes()) {
                    face.append(face.charAt(face.length() - 1) == '(' ? "" : ",").append(p.getName());
                }
                found.add(face + "):" + m.getReturnType().getName());
                names.add(m.getName());
                look(Modifier.isPublic(m.getModifiers()), "rule 1: " + m);
            }
        }
        look(found.equals(new TreeSet<>(FACE)), "rule 1: the face is " + found);
        List<Class<?>> all = new ArrayList<>(List.of(type.getDeclaredClasses()));
        look(all.size() <= 12, "rule 11: classes " + all.size());
        for (Class<?> inner : all) {
            look(Modifier.isStatic(inner.getModifiers()), "rule 2: " + inner);
        }
        all.add(type);
        for (Class<?> each : all) {
            int fields = 0;
            for (Field f : each.getDeclaredFields()) {
                boolean isStatic = Modifier.isStatic(f.getModifiers());
                fields += isStatic ? 0 : 1;
                look(!isStatic || Modifier.isFinal(f.getModifiers()), "rule 5: " + f);
                look(each != type || Modifier.isPrivate(f.getModifiers()) || f.getName().equals("NONE"),
                    "rule 1: " + f);
            }
            look(fields <= 20, "rule 11: fields of " + each);
            for (Method m : each.getDeclaredMethods()) {
                look(each == type && Modifier.isPublic(m.getModifiers()) || !names.contains(m.getName()),
                    "rule 1: a second " + m);
            }
        }
        Constructor<?>[] makers = type.getDeclaredConstructors();
        look(makers.length == 1 && Modifier.isPublic(makers[0].getModifiers()), "rule 1: constructors");
    }

    private static void source() throws Exception {
        JavaCompiler compiler = ToolProvider.getSystemJavaCompiler();
        var files = compiler.getStandardFileManager(null, null, null);
        var units = files.getJavaFileObjects(new File("src/main/java/SlateSchool.java"));
        JavacTask task = (JavacTask) compiler.getTask(null, files, null, List.of("-proc:none"), null, units);
        CompilationUnitTree unit = task.parse().iterator().next();
        task.analyze();
        look(unit.getPackageName() == null, "a package line");
        look(unit.getImports().isEmpty(), "an import");
        look(unit.getTypeDecls().size() == 1, "one class");
        Scanner scanner = new Scanner(Trees.instance(task), unit);
        scanner.scan(unit, null);
        scanner.depths();
    }

    private static final class Scanner extends TreePathScanner<Void, Void> {
        private final Trees trees;
        private final CompilationUnitTree unit;
        private final Map<Element, Set<Element>> calls = new HashMap<>();
        private ExecutableElement method;

        Scanner(Trees trees, CompilationUnitTree unit) {
            this.trees = trees;
            this.unit = unit;
        }

        private void never(String rule, Tree tree) {
            look(false, rule + ": line " + line(trees.getSourcePositions().getStartPosition(unit, tree)));
        }

        private long line(long position) {
            return unit.getLineMap().getLineNumber(position);
        }

        @Override public Void visitMethod(MethodTree tree, Void none) {
            method = (ExecutableElement) trees.getElement(getCurrentPath());
            calls.computeIfAbsent(method, m -> new HashSet<>());
            long from = trees.getSourcePositions().getStartPosition(unit, tree);
            long to = trees.getSourcePositions().getEndPosition(unit, tree);
            look(from < 0 || to < 0 || line(to) - line(from) < 60, "rule 11: lines of " + tree.getName());
            look(tree.getParameters().size() <= 7, "rule 11: parameters of " + tree.getName());
            super.visitMethod(tree, none);
            method = null;
            return null;
        }

        @Override public Void visitMethodInvocation(MethodInvocationTree tree, Void none) {
            Element called = trees.getElement(getCurrentPath());
            String owner = called.getEnclosingElement().toString();
            if (called.getSimpleName().contentEquals("<init>")) {
                return super.visitMethodInvocation(tree, none);
            }
            if (owner.startsWith("java.")) {
                look(LIBRARY.contains(called.getSimpleName().toString()), "rule 4: " + called);
            } else if (method != null) {
                calls.get(method).add(called);
            }
            return super.visitMethodInvocation(tree, none);
        }

        @Override public Void visitNewClass(NewClassTree tree, Void none) {
            look(tree.getClassBody() == null, "rule 2: an anonymous class");
            if (method != null) {
                never("rule 12, as this class keeps it: made in a method", tree);
            }
            return super.visitNewClass(tree, none);
        }

        @Override public Void visitNewArray(NewArrayTree tree, Void none) {
            if (method != null) {
                never("rule 12, as this class keeps it: made in a method", tree);
            }
            return super.visitNewArray(tree, none);
        }

        @Override public Void visitClass(ClassTree tree, Void none) {
            if (method != null) {
                never("rule 2: a local class", tree);
            }
            return super.visitClass(tree, none);
        }

        @Override public Void visitForLoop(ForLoopTree tree, Void none) {
            look(tree.getCondition() != null && !tree.getUpdate().isEmpty(), "rule 9: a loop without a bound");
            return super.visitForLoop(tree, none);
        }

        @Override public Void visitWhileLoop(WhileLoopTree tree, Void none) {
            never("rule 9, as this class keeps it: while", tree);
            return super.visitWhileLoop(tree, none);
        }

        @Override public Void visitDoWhileLoop(DoWhileLoopTree tree, Void none) {
            never("rule 9, as this class keeps it: do", tree);
            return super.visitDoWhileLoop(tree, none);
        }

        @Override public Void visitBinary(BinaryTree tree, Void none) {
            String type = trees.getTypeMirror(getCurrentPath()).toString();
            look(!type.endsWith("String"), "rule 10: texts joined by +");
            if (tree.getKind() == Tree.Kind.DIVIDE || tree.getKind() == Tree.Kind.REMAINDER) {
                ExpressionTree divisor = tree.getRightOperand();
                boolean isName = divisor.getKind() == Tree.Kind.IDENTIFIER
                    || divisor.getKind() == Tree.Kind.PARENTHESIZED;
                look(isName, "rule 7: a divisor to look at: " + tree);
            }
            return super.visitBinary(tree, none);
        }

        @Override public Void visitVariable(VariableTree tree, Void none) {
            String type = String.valueOf(tree.getType());
            Set<String> plain = Set.of("int", "boolean", "char", "int[]", "String");
            boolean isOwn = trees.getTypeMirror(new TreePath(getCurrentPath(), tree.getType())).toString()
                .startsWith("SlateSchool");
            look(plain.contains(type) || isOwn, "rule 3: " + type);
            return super.visitVariable(tree, none);
        }

        @Override public Void visitTypeCast(TypeCastTree tree, Void none) {
            look(tree.getType().toString().equals("char"), "rule 6: a cast to " + tree.getType());
            return super.visitTypeCast(tree, none);
        }

        @Override public Void visitThrow(ThrowTree tree, Void none) {
            never("rule 6: throw", tree);
            return null;
        }

        @Override public Void visitTry(TryTree tree, Void none) {
            never("rule 6: try", tree);
            return null;
        }

        @Override public Void visitSynchronized(SynchronizedTree tree, Void none) {
            never("rule 6: synchronized", tree);
            return null;
        }

        @Override public Void visitAssert(AssertTree tree, Void none) {
            never("rule 6: assert", tree);
            return null;
        }

        @Override public Void visitLambdaExpression(LambdaExpressionTree tree, Void none) {
            never("rule 2: a lambda", tree);
            return null;
        }

        @Override public Void visitMemberReference(MemberReferenceTree tree, Void none) {
            never("rule 2: a method reference", tree);
            return null;
        }

        @Override public Void visitInstanceOf(InstanceOfTree tree, Void none) {
            never("rule 6, as this class keeps it: instanceof", tree);
            return null;
        }

        @Override public Void visitAnnotatedType(AnnotatedTypeTree tree, Void none) {
            never("an annotation", tree);
            return null;
        }

        /** Calls that are no recursion go at most eight deep; the Reader's descent has a guard of its own. */
        void depths() {
            for (Element each : calls.keySet()) {
                int depth = depth(each, new ArrayList<>());
                look(depth <= 8, "rule 11: " + each + " goes " + depth + " deep");
            }
        }

        private boolean isDescent(Element method) {
            return Set.of("readCondition", "readPart", "readPiece", "readSum", "readTerm", "readFactor")
                .contains(method.getSimpleName().toString());
        }

        private int depth(Element method, List<Element> open) {
            look(open.isEmpty() || open.get(open.size() - 1) != method, "rule 8: " + method + " calls itself");
            if (open.contains(method)) {
                look(isDescent(method), "rule 8: a recursion of " + method);
                return 0;
            }
            open.add(method);
            int deepest = 0;
            for (Element called : calls.getOrDefault(method, Set.of())) {
                deepest = Math.max(deepest, depth(called, open));
            }
            open.remove(open.size() - 1);
            return deepest + (isDescent(method) ? 0 : 1);
        }
    }

    /** The dearest calls of a whole run make nothing. */
    private static void room() {
        SlateSchool x = new SlateSchool();
        runAll(x);
        runAll(new SlateSchool());
        SlateSchool y = new SlateSchool();
        var bean = (com.sun.management.ThreadMXBean) java.lang.management.ManagementFactory.getThreadMXBean();
        long id = Thread.currentThread().getId();
        bean.getThreadAllocatedBytes(id);
        long before = bean.getThreadAllocatedBytes(id);
        runAll(y);
        long taken = bean.getThreadAllocatedBytes(id) - before;
        look(taken < 20000, "rule 12: a run makes " + taken + " bytes");
        before = bean.getThreadAllocatedBytes(id);
        new SlateSchool();
        taken = bean.getThreadAllocatedBytes(id) - before;
        look(taken < 30000, "rule 12: an object has " + taken + " bytes");
    }

    private static final int[] LAW = {'m' << 24 | '2' << 16 | '(' << 8 | '1', '=' << 24 | '1' << 16 | ')' << 8 | ';',
        'f' << 24 | '1' << 16 | '(' << 8 | 'w', '>' << 24 | '4' << 16 | ')' << 8 | ';',
        'd' << 24 | '1' << 16 | '(' << 8 | '1', '=' << 24 | '1' << 16 | ')' << 8};

    private static void runAll(SlateSchool x) {
        x.feed(LAW[0], LAW[1], LAW[2], LAW[3], LAW[4]);
        x.feed(LAW[5], 0, 0, 0, 0);
        look(x.law(23) == 3, "a law");
        for (int i = 0; i < 8; i++) {
            x.roof(90, 9, i);
            x.apprentice(i);
            x.master(i % 5, false);
            x.on(i, i);
            x.below(i, i);
        }
        x.hours(3);
        for (int i = 0; i < 5; i++) {
            x.set(7, 0, 20, 10);
            x.free(8, 4, 0);
            x.worth(0, i, 40);
            x.lent(1, 10);
            x.feed(0, 0, 0, 0, 0);
            x.letGo(i, 6, -1);
            x.settled(0);
            x.chain(0, i, -1);
            x.odds(i, 3, 3, 0);
            x.tried(40, 0);
            x.keep();
            x.undo();
            x.feed(0, 0, 0, 0, 0);
            x.check(3);
        }
    }
}
