import com.sun.source.tree.AssertTree;
import com.sun.source.tree.BinaryTree;
import com.sun.source.tree.CatchTree;
import com.sun.source.tree.ClassTree;
import com.sun.source.tree.CompilationUnitTree;
import com.sun.source.tree.ExpressionTree;
import com.sun.source.tree.IdentifierTree;
import com.sun.source.tree.ImportTree;
import com.sun.source.tree.LambdaExpressionTree;
import com.sun.source.tree.LiteralTree;
import com.sun.source.tree.MemberReferenceTree;
import com.sun.source.tree.MemberSelectTree;
import com.sun.source.tree.MethodInvocationTree;
import com.sun.source.tree.MethodTree;
import com.sun.source.tree.NewClassTree;
import com.sun.source.tree.SynchronizedTree;
import com.sun.source.tree.ThrowTree;
import com.sun.source.tree.Tree;
import com.sun.source.tree.VariableTree;
import com.sun.source.util.JavacTask;
import com.sun.source.util.TreeScanner;
import com.sun.source.util.Trees;
import java.io.File;
import java.util.ArrayList;
import java.util.HashMap;
import java.util.LinkedHashSet;
import java.util.List;
import java.util.Map;
import java.util.Set;
import java.util.TreeSet;
import javax.lang.model.element.Modifier;
import javax.tools.JavaCompiler;
import javax.tools.StandardJavaFileManager;
import javax.tools.ToolProvider;

/** The rules of ../shared/LANGUAGE.md that can be seen in the source of the class. */
public final class LanguageTest {
    private static final Check c = new Check();
    private static final Set<String> FACE = new TreeSet<>(List.of(("fly addAircraft fault addCrew addStand turnRunway"
            + " ice setPads addFlight slot trade hold waitFor swap cancel addGroup tell state minuteOf standOf cause"
            + " root lateness lastOf isStranded lateBags missed harm paid logLength logAt recover isBest onTimeShare"
            + " meanLateness isSound").split(" ")));
    private static final Set<String> LIBRARY = Set.of("Math.max", "Math.min", "Integer.bitCount", "Arrays.fill");

    public static void main(String[] args) throws Exception {
        JavaCompiler compiler = ToolProvider.getSystemJavaCompiler();
        StandardJavaFileManager files = compiler.getStandardFileManager(null, null, null);
        JavacTask task = (JavacTask) compiler.getTask(null, files, null, null, null,
                files.getJavaFileObjects(new File("src/main/java/RunwayLoom.java")));
        CompilationUnitTree unit = task.parse().iterator().next();
        Set<String> imports = new TreeSet<>();
        for (ImportTree each : unit.getImports()) {
            imports.add(each.getQualifiedIdentifier().toString());
        }
        c.same("4 imports", imports, "[java.util.Arrays, java.util.NoSuchElementException]");
        c.same("1 one class, no package", unit.getTypeDecls().size() == 1 && unit.getPackageName() == null, true);
        Source source = new Source(unit, Trees.instance(task));
        source.scan(unit, null);
        c.same("12 classes at most", source.classes <= 12, true);
        c.same("1 public members", source.open, FACE);
        c.same("what is not of the language", source.faults, new ArrayList<String>());
        List<String> deepest = source.deepest();
        c.same("8 no recursion, and calls at most eight deep, but " + deepest, deepest.size() <= 8, true);
        c.end("LanguageTest");
    }

    private static final class Source extends TreeScanner<Void, Void> {
        final CompilationUnitTree unit;
        final Trees trees;
        final List<String> faults = new ArrayList<>();
        final Set<String> open = new TreeSet<>();
        final Map<String, Set<String>> calls = new HashMap<>();
        int classes = 0;
        private String method = "";
        private boolean isOuter = true;

        Source(CompilationUnitTree itsUnit, Trees itsTrees) {
            unit = itsUnit;
            trees = itsTrees;
        }

        private void fault(boolean isOne, String what) {
            if (isOne) {
                faults.add(what + " in " + method);
            }
        }

        @Override
        public Void visitClass(ClassTree node, Void none) {
            classes++;
            Set<Modifier> flags = node.getModifiers().getFlags();
            boolean wasOuter = isOuter;
            method = node.getSimpleName().toString();
            fault(isOuter != flags.contains(Modifier.PUBLIC), "1 public");
            fault(!isOuter && !flags.contains(Modifier.STATIC), "2 not static");
            int fields = 0;
            for (Tree member : node.getMembers()) {
                if (member instanceof VariableTree) {
                    Set<Modifier> fieldFlags = ((VariableTree) member).getModifiers().getFlags();
                    boolean isStatic = fieldFlags.contains(Modifier.STATIC);
                    fields += isStatic ? 0 : 1;
                    fault(isStatic && !fieldFlags.contains(Modifier.FINAL), "5 static state");
                    fault(isOuter && !fieldFlags.contains(Modifier.PRIVATE), "1 a field that is not private");
                }
            }
            fault(fields > 20, "11 more than 20 fields");
            isOuter = false;
            for (Tree member : node.getMembers()) {
                if (member instanceof MethodTree) {
                    checkMethod((MethodTree) member, wasOuter);
                }
                scan(member, none);
            }
            isOuter = wasOuter;
            return null;
        }

        private void checkMethod(MethodTree node, boolean isOfFace) {
            method = node.getName().toString();
            boolean isPublic = node.getModifiers().getFlags().contains(Modifier.PUBLIC);
            boolean isConstructor = node.getReturnType() == null;
            if (isOfFace && isPublic && !isConstructor) {
                open.add(method);
            }
            fault(FACE.contains(method) != (isOfFace && isPublic && !isConstructor), "1 a name of the face");
            fault(isOfFace && !isPublic && !node.getModifiers().getFlags().contains(Modifier.PRIVATE), "1 not private");
            fault(node.getParameters().size() > 7, "11 more than 7 parameters");
            fault(lines(node) > 60, "11 more than 60 lines");
            calls.putIfAbsent(method, new LinkedHashSet<>());
            if (isConstructor) {
                new TreeScanner<Void, Void>() {
                    @Override
                    public Void visitThrow(ThrowTree thrown, Void none) {
                        fault(true, "6 a throw in a constructor");
                        return null;
                    }
                }.scan(node, null);
            }
        }

        private long lines(Tree node) {
            long first = trees.getSourcePositions().getStartPosition(unit, node);
            long last = trees.getSourcePositions().getEndPosition(unit, node);
            return unit.getLineMap().getLineNumber(last) - unit.getLineMap().getLineNumber(first) + 1;
        }

        @Override
        public Void visitMethod(MethodTree node, Void none) {
            method = node.getName().toString();
            return super.visitMethod(node, none);
        }

        @Override
        public Void visitMethodInvocation(MethodInvocationTree node, Void none) {
            ExpressionTree called = node.getMethodSelect();
            if (called instanceof IdentifierTree) {
                calls.get(method).add(called.toString());
            } else {
                String owner = ((MemberSelectTree) called).getExpression().toString();
                if (owner.equals("Math") || owner.equals("Integer") || owner.equals("Arrays")) {
                    fault(!LIBRARY.contains(called.toString()), "4 " + called);
                } else {
                    calls.get(method).add(((MemberSelectTree) called).getIdentifier().toString());
                }
            }
            return super.visitMethodInvocation(node, none);
        }

        /** The most methods that stand open at once; a name stands for all methods of that name. */
        List<String> deepest() {
            List<String> most = new ArrayList<>();
            for (String name : calls.keySet()) {
                List<String> chain = chain(name, 0);
                most = chain.size() > most.size() ? chain : most;
            }
            return most;
        }

        private List<String> chain(String name, int open) {
            List<String> most = new ArrayList<>();
            for (String called : calls.getOrDefault(name, Set.of())) {
                if (open < 20 && !called.equals("super")) {
                    List<String> chain = chain(called, open + 1);
                    most = chain.size() > most.size() ? chain : most;
                }
            }
            most.add(0, name);
            return most;
        }

        @Override
        public Void visitMemberSelect(MemberSelectTree node, Void none) {
            String text = node.toString();
            fault(text.startsWith("Integer.M") || text.startsWith("System."), "4 " + text);
            return super.visitMemberSelect(node, none);
        }

        @Override
        public Void visitBinary(BinaryTree node, Void none) {
            boolean isText = node.getKind() == Tree.Kind.PLUS
                    && (node.getLeftOperand().getKind() == Tree.Kind.STRING_LITERAL
                    || node.getRightOperand().getKind() == Tree.Kind.STRING_LITERAL);
            fault(isText, "10 texts joined by +");
            return super.visitBinary(node, none);
        }

        @Override
        public Void visitLiteral(LiteralTree node, Void none) {
            if (node.getValue() instanceof String) {
                fault(((String) node.getValue()).chars().anyMatch(sign -> sign < 1 || sign > 127), "4 a sign");
            }
            return null;
        }

        @Override
        public Void visitNewClass(NewClassTree node, Void none) {
            fault(node.getClassBody() != null, "2 an anonymous class");
            return super.visitNewClass(node, none);
        }

        @Override
        public Void visitLambdaExpression(LambdaExpressionTree node, Void none) {
            fault(true, "2 a lambda");
            return null;
        }

        @Override
        public Void visitMemberReference(MemberReferenceTree node, Void none) {
            fault(true, "2 a method reference");
            return null;
        }

        @Override
        public Void visitCatch(CatchTree node, Void none) {
            fault(true, "6 a catch, which the class has no need of");
            return null;
        }

        @Override
        public Void visitSynchronized(SynchronizedTree node, Void none) {
            fault(true, "6 synchronized");
            return null;
        }

        @Override
        public Void visitAssert(AssertTree node, Void none) {
            fault(true, "6 assert");
            return null;
        }
    }
}
