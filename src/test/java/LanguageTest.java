import com.sun.source.tree.BinaryTree;
import com.sun.source.tree.ClassTree;
import com.sun.source.tree.CompilationUnitTree;
import com.sun.source.tree.LineMap;
import com.sun.source.tree.MethodInvocationTree;
import com.sun.source.tree.MethodTree;
import com.sun.source.tree.NewArrayTree;
import com.sun.source.tree.NewClassTree;
import com.sun.source.tree.Tree;
import com.sun.source.tree.VariableTree;
import com.sun.source.util.JavacTask;
import com.sun.source.util.SourcePositions;
import com.sun.source.util.TreePathScanner;
import com.sun.source.util.Trees;
import java.io.File;
import java.io.IOException;
import java.util.ArrayList;
import java.util.EnumSet;
import java.util.LinkedHashMap;
import java.util.LinkedHashSet;
import java.util.List;
import java.util.Map;
import java.util.Set;
import javax.lang.model.element.Element;
import javax.lang.model.element.Modifier;
import javax.lang.model.type.TypeMirror;
import javax.tools.JavaCompiler;
import javax.tools.StandardJavaFileManager;
import javax.tools.ToolProvider;

/** Those rules of LANGUAGE.md that the source shows, by the compiler's own reading of it. */
public final class LanguageTest {
    private static final String SOURCE = "src/main/java/PlayedWritten.java";
    private static final Set<Tree.Kind> RULED_OUT = EnumSet.of(Tree.Kind.LAMBDA_EXPRESSION,
            Tree.Kind.MEMBER_REFERENCE, Tree.Kind.THROW, Tree.Kind.TRY, Tree.Kind.ASSERT,
            Tree.Kind.SYNCHRONIZED, Tree.Kind.IMPORT, Tree.Kind.PACKAGE);
    // Of what rule 4 allows, what the class uses.
    private static final Set<String> LIBRARY = Set.of("java.lang.Math.abs", "java.lang.Math.min",
            "java.lang.Math.max", "java.lang.System.arraycopy", "java.lang.String.charAt");
    private static final Set<String> STATIC_TYPES = Set.of("int", "long", "boolean", "char",
            "java.lang.String", "int[]", "long[]", "char[]", "byte[]");

    private static Trees trees;

    public static void main(String[] args) throws IOException {
        if (!new File(SOURCE).exists()) {
            System.out.println("LanguageTest is run in the project's root: there is no " + SOURCE);
            System.exit(1);
        }
        JavaCompiler compiler = ToolProvider.getSystemJavaCompiler();
        try (StandardJavaFileManager files = compiler.getStandardFileManager(null, null, null)) {
            JavacTask task = (JavacTask) compiler.getTask(null, files, null,
                    List.of("--release", "17", "-proc:none"), null, files.getJavaFileObjects(SOURCE));
            CompilationUnitTree unit = task.parse().iterator().next();
            task.analyze();
            trees = Trees.instance(task);
            Reader reader = new Reader(unit);
            reader.scan(unit, null);
            reader.depths();
        }
        Check.end("LanguageTest");
    }

    private static final class Reader extends TreePathScanner<Void, Void> {
        private final CompilationUnitTree unit;
        private final Map<Element, Set<Element>> calls = new LinkedHashMap<>();
        private Element method = null;
        private int classes = 0;

        Reader(CompilationUnitTree unit) {
            this.unit = unit;
        }

        private String at(Tree tree) {
            return "line " + line(trees.getSourcePositions().getStartPosition(unit, tree));
        }

        private long line(long position) {
            LineMap lines = unit.getLineMap();
            return lines.getLineNumber(position);
        }

        @Override
        public Void scan(Tree tree, Void none) {
            if (tree != null) {
                Check.holds("rules 2, 6: " + at(tree) + " has no " + tree.getKind(),
                        !RULED_OUT.contains(tree.getKind()));
            }
            return super.scan(tree, none);
        }

        @Override
        public Void visitClass(ClassTree tree, Void none) {
            classes++;
            Set<Modifier> modifiers = tree.getModifiers().getFlags();
            boolean outer = classes == 1;
            Check.holds("rule 1: " + tree.getSimpleName(), modifiers.contains(outer ? Modifier.PUBLIC : Modifier.STATIC));
            Check.holds("rule 12: " + tree.getSimpleName() + " is final", modifiers.contains(Modifier.FINAL));
            for (Tree member : tree.getMembers()) {
                Check.holds("rule 5: no initialiser block, " + at(member), member.getKind() != Tree.Kind.BLOCK);
            }
            return super.visitClass(tree, none);
        }

        @Override
        public Void visitVariable(VariableTree tree, Void none) {
            Element variable = trees.getElement(getCurrentPath());
            if (variable.getModifiers().contains(Modifier.STATIC)) {
                Check.holds("rule 5: " + variable, variable.getModifiers().contains(Modifier.FINAL)
                        && STATIC_TYPES.contains(variable.asType().toString()));
            }
            return super.visitVariable(tree, none);
        }

        @Override
        public Void visitMethod(MethodTree tree, Void none) {
            SourcePositions positions = trees.getSourcePositions();
            long lines = line(positions.getEndPosition(unit, tree)) - line(positions.getStartPosition(unit, tree)) + 1;
            Check.holds("rule 11: " + tree.getName() + " has " + lines + " lines", lines <= 60);
            Check.holds("rule 11: " + tree.getName() + " takes seven at most", tree.getParameters().size() <= 7);
            method = trees.getElement(getCurrentPath());
            calls.put(method, new LinkedHashSet<>());
            super.visitMethod(tree, none);
            method = null;
            return null;
        }

        @Override
        public Void visitMethodInvocation(MethodInvocationTree tree, Void none) {
            Element called = trees.getElement(getCurrentPath());
            String name = called.getEnclosingElement() + "." + called.getSimpleName();
            boolean made = called.getSimpleName().contentEquals("<init>");
            Check.holds("rule 4: " + at(tree) + " calls " + name,
                    made || name.startsWith("PlayedWritten.") || LIBRARY.contains(name));
            if (method != null && !made) {
                calls.get(method).add(called);
            }
            return super.visitMethodInvocation(tree, none);
        }

        @Override
        public Void visitNewClass(NewClassTree tree, Void none) {
            Check.holds("rule 2: " + at(tree) + " has no body of its own", tree.getClassBody() == null);
            madeWithTheObject(tree);
            return super.visitNewClass(tree, none);
        }

        @Override
        public Void visitNewArray(NewArrayTree tree, Void none) {
            madeWithTheObject(tree);
            return super.visitNewArray(tree, none);
        }

        private void madeWithTheObject(Tree tree) {
            Check.holds("the room: " + at(tree) + " is made with the object",
                    method == null || method.getSimpleName().contentEquals("<init>"));
        }

        @Override
        public Void visitBinary(BinaryTree tree, Void none) {
            TypeMirror type = trees.getTypeMirror(getCurrentPath());
            Check.holds("rule 10: " + at(tree) + " joins no texts", !type.toString().equals("java.lang.String"));
            if (tree.getKind() == Tree.Kind.DIVIDE || tree.getKind() == Tree.Kind.REMAINDER) {
                // A constant, or the ticks of all BARS, which the loop that draws looks at.
                String by = tree.getRightOperand().toString();
                Check.holds("rule 7: " + at(tree) + " divides by " + by, by.matches("[1-9]\\d*L?|[A-Z_]+|ticks"));
            }
            return super.visitBinary(tree, none);
        }

        /** Rule 11: no chain of calls but recursion is longer than eight, the library's calls among them. */
        void depths() {
            Check.holds("rule 11: " + classes + " classes", classes <= 12);
            for (Element from : calls.keySet()) {
                List<Element> chain = longest(from, new ArrayList<>());
                Check.holds("rule 11: calls " + chain, chain.size() <= 8);
            }
        }

        private List<Element> longest(Element from, List<Element> open) {
            List<Element> chain = new ArrayList<>();
            open.add(from);
            for (Element next : calls.getOrDefault(from, Set.of())) {
                boolean again = next.equals(from);
                Check.holds("rule 8: " + next + " calls itself alone", again || !open.contains(next));
                if (!again && !open.contains(next)) {
                    List<Element> tail = longest(next, open);
                    chain = tail.size() > chain.size() ? tail : chain;
                }
            }
            open.remove(from);
            chain.add(0, from);
            return chain;
        }
    }
}
