import com.sun.source.tree.AssertTree;
import com.sun.source.tree.BinaryTree;
import com.sun.source.tree.BlockTree;
import com.sun.source.tree.ClassTree;
import com.sun.source.tree.CompilationUnitTree;
import com.sun.source.tree.CompoundAssignmentTree;
import com.sun.source.tree.ImportTree;
import com.sun.source.tree.LambdaExpressionTree;
import com.sun.source.tree.MemberReferenceTree;
import com.sun.source.tree.MethodInvocationTree;
import com.sun.source.tree.MethodTree;
import com.sun.source.tree.NewArrayTree;
import com.sun.source.tree.NewClassTree;
import com.sun.source.tree.PrimitiveTypeTree;
import com.sun.source.tree.SynchronizedTree;
import com.sun.source.tree.ThrowTree;
import com.sun.source.tree.Tree;
import com.sun.source.tree.TryTree;
import com.sun.source.tree.VariableTree;
import com.sun.source.util.JavacTask;
import com.sun.source.util.SourcePositions;
import com.sun.source.util.TreePath;
import com.sun.source.util.TreePathScanner;
import com.sun.source.util.Trees;
import java.io.File;
import java.io.IOException;
import java.lang.reflect.Field;
import java.lang.reflect.Method;
import java.lang.reflect.Modifier;
import java.nio.file.Files;
import java.nio.file.Path;
import java.util.ArrayList;
import java.util.Arrays;
import java.util.HashMap;
import java.util.HashSet;
import java.util.LinkedHashMap;
import java.util.LinkedHashSet;
import java.util.List;
import java.util.Map;
import java.util.Set;
import java.util.TreeSet;
import java.util.stream.Collectors;
import javax.lang.model.element.Element;
import javax.lang.model.element.ElementKind;
import javax.lang.model.element.ExecutableElement;
import javax.lang.model.element.TypeElement;
import javax.lang.model.type.TypeKind;
import javax.lang.model.type.TypeMirror;
import javax.tools.JavaCompiler;
import javax.tools.StandardJavaFileManager;
import javax.tools.ToolProvider;

/** What of LANGUAGE.md and of the document's face can be looked at in the source; the rule's number is in the name. */
final class LanguageTests {
    private static final int MOST_LINES = 60, MOST_PARAMETERS = 7, MOST_DEEP = 8, MOST_CLASSES = 12, MOST_FIELDS = 20;
    private static final Set<String> LIBRARY = Set.of(
        "java.lang.Math.abs", "java.lang.Math.min", "java.lang.Math.max", "java.lang.Long.bitCount",
        "java.lang.System.arraycopy", "java.lang.String.length", "java.lang.String.charAt", "java.lang.String.indexOf");

    static String source;

    private LanguageTests() {
    }

    /** Goes once over the source, and keeps what the tests ask. */
    private static final class Look extends TreePathScanner<Void, Void> {
        final List<String> wrongs = new ArrayList<>();
        final Map<ExecutableElement, Set<ExecutableElement>> calls = new LinkedHashMap<>();
        final Map<String, MethodTree> methods = new LinkedHashMap<>();
        final Map<String, Integer> lines = new HashMap<>();
        final Map<String, Integer> fields = new LinkedHashMap<>();
        final List<String> imports = new ArrayList<>();
        final List<String> makers = new ArrayList<>();
        int classes;
        private final Trees trees;
        private final CompilationUnitTree unit;

        Look(Trees trees, CompilationUnitTree unit) {
            this.trees = trees;
            this.unit = unit;
        }

        static Look at(String path) {
            JavaCompiler compiler = ToolProvider.getSystemJavaCompiler();
            try (StandardJavaFileManager files = compiler.getStandardFileManager(null, null, null)) {
                JavacTask task = (JavacTask) compiler.getTask(
                    null, files, null, List.of("-proc:none"), null, files.getJavaFileObjects(new File(path)));
                CompilationUnitTree unit = task.parse().iterator().next();
                task.analyze();
                Look look = new Look(Trees.instance(task), unit);
                look.scan(unit, null);
                return look;
            } catch (IOException e) {
                throw new IllegalStateException(e);
            }
        }

        private long line(long position) {
            return unit.getLineMap().getLineNumber(position);
        }

        private void wrong(Tree tree, String what) {
            long line = line(trees.getSourcePositions().getStartPosition(unit, tree));
            wrongs.add("  line " + line + ": " + what);
        }

        private ExecutableElement method() {
            for (TreePath path = getCurrentPath(); path != null; path = path.getParentPath()) {
                if (path.getLeaf() instanceof MethodTree) {
                    return (ExecutableElement) trees.getElement(path);
                }
            }
            return null;
        }

        private void call(Element called, Tree tree) {
            TypeElement owner = (TypeElement) called.getEnclosingElement();
            String name = owner.getQualifiedName() + "." + called.getSimpleName();
            if (name.startsWith("FarVoice")) {
                if (method() != null) {
                    calls.computeIfAbsent(method(), m -> new LinkedHashSet<>()).add((ExecutableElement) called);
                }
            } else if (!LIBRARY.contains(name) && !name.equals("java.lang.Object.<init>")) {
                wrong(tree, "calls " + name);
            }
        }

        private boolean isText(Tree tree) {
            TypeMirror type = trees.getTypeMirror(new TreePath(getCurrentPath(), tree));
            return type != null && type.toString().equals("java.lang.String");
        }

        @Override
        public Void visitImport(ImportTree tree, Void none) {
            imports.add(tree.toString());
            return super.visitImport(tree, none);
        }

        @Override
        public Void visitClass(ClassTree tree, Void none) {
            classes++;
            Set<javax.lang.model.element.Modifier> marks = tree.getModifiers().getFlags();
            boolean outer = getCurrentPath().getParentPath().getLeaf() instanceof CompilationUnitTree;
            if (!outer && !marks.contains(javax.lang.model.element.Modifier.STATIC)) {
                wrong(tree, "a class inside that isn't static");
            }
            int count = 0;
            for (Tree member : tree.getMembers()) {
                if (member instanceof BlockTree) {
                    wrong(member, "an initialiser block");
                }
                if (member instanceof VariableTree) {
                    Set<javax.lang.model.element.Modifier> flags = ((VariableTree) member).getModifiers().getFlags();
                    boolean isStatic = flags.contains(javax.lang.model.element.Modifier.STATIC);
                    if (isStatic && !flags.contains(javax.lang.model.element.Modifier.FINAL)) {
                        wrong(member, "a static field that isn't final");
                    }
                    count += isStatic ? 0 : 1;
                }
            }
            fields.put(tree.getSimpleName().toString(), count);
            return super.visitClass(tree, none);
        }

        @Override
        public Void visitMethod(MethodTree tree, Void none) {
            SourcePositions positions = trees.getSourcePositions();
            String name = method().getEnclosingElement().getSimpleName() + "." + method().getSimpleName();
            methods.put(name, tree);
            lines.put(name, (int) (line(positions.getEndPosition(unit, tree))
                - line(positions.getStartPosition(unit, tree)) + 1));
            calls.computeIfAbsent(method(), m -> new LinkedHashSet<>());
            return super.visitMethod(tree, none);
        }

        @Override
        public Void visitMethodInvocation(MethodInvocationTree tree, Void none) {
            call(trees.getElement(new TreePath(getCurrentPath(), tree.getMethodSelect())), tree);
            return super.visitMethodInvocation(tree, none);
        }

        @Override
        public Void visitNewClass(NewClassTree tree, Void none) {
            if (tree.getClassBody() != null) {
                wrong(tree, "an anonymous class");
            }
            call(trees.getElement(getCurrentPath()), tree);
            made(tree);
            return super.visitNewClass(tree, none);
        }

        @Override
        public Void visitNewArray(NewArrayTree tree, Void none) {
            made(tree);
            return super.visitNewArray(tree, none);
        }

        private void made(Tree tree) {
            if (method() != null && method().getKind() == ElementKind.METHOD) {
                makers.add(method().getSimpleName() + " makes " + tree);
            }
        }

        @Override
        public Void visitBinary(BinaryTree tree, Void none) {
            boolean texts = isText(tree.getLeftOperand()) || isText(tree.getRightOperand());
            if (texts) {
                wrong(tree, tree.getKind() + " of texts");
            }
            return super.visitBinary(tree, none);
        }

        @Override
        public Void visitCompoundAssignment(CompoundAssignmentTree tree, Void none) {
            if (isText(tree.getVariable())) {
                wrong(tree, "a text is joined by +=");
            }
            return super.visitCompoundAssignment(tree, none);
        }

        @Override
        public Void visitPrimitiveType(PrimitiveTypeTree tree, Void none) {
            TypeKind kind = tree.getPrimitiveTypeKind();
            if (kind == TypeKind.DOUBLE || kind == TypeKind.FLOAT) {
                wrong(tree, "a number with a point, which nothing here asks for");
            }
            return super.visitPrimitiveType(tree, none);
        }

        @Override
        public Void visitThrow(ThrowTree tree, Void none) {
            wrong(tree, "throw");
            return super.visitThrow(tree, none);
        }

        @Override
        public Void visitTry(TryTree tree, Void none) {
            wrong(tree, "try");
            return super.visitTry(tree, none);
        }

        @Override
        public Void visitSynchronized(SynchronizedTree tree, Void none) {
            wrong(tree, "synchronized");
            return super.visitSynchronized(tree, none);
        }

        @Override
        public Void visitAssert(AssertTree tree, Void none) {
            wrong(tree, "assert");
            return super.visitAssert(tree, none);
        }

        @Override
        public Void visitLambdaExpression(LambdaExpressionTree tree, Void none) {
            wrong(tree, "a lambda");
            return super.visitLambdaExpression(tree, none);
        }

        @Override
        public Void visitMemberReference(MemberReferenceTree tree, Void none) {
            wrong(tree, "a method reference");
            return super.visitMemberReference(tree, none);
        }
    }

    static void rules2To6And10OnlyWhatIsLeft() {
        for (String wrong : Look.at(source).wrongs) {
            Check.wrong(wrong);
        }
    }

    static void rule1TheFace() throws IOException {
        for (Method method : FarVoice.class.getDeclaredMethods()) {
            if (!Modifier.isPublic(method.getModifiers()) && !Modifier.isPrivate(method.getModifiers())
                && !method.isSynthetic()) {
                Check.wrong("  a visible method beside the face: " + method);
            }
        }
        for (Field field : FarVoice.class.getDeclaredFields()) {
            boolean constant = Set.of("NONE", "BAD", "STATE", "FULL", "NO").contains(field.getName());
            if (constant != Modifier.isPublic(field.getModifiers())
                || constant == Modifier.isPrivate(field.getModifiers())) {
                Check.wrong("  a field of the wrong sight: " + field);
            }
        }
        Set<String> own = Arrays.stream(FarVoice.class.getDeclaredMethods())
            .filter(m -> Modifier.isPublic(m.getModifiers()))
            .map(m -> m.getReturnType() + " " + m.getName() + Arrays.stream(m.getParameterTypes())
                .map(Class::getName).collect(Collectors.joining(", ", "(", ")")))
            .collect(Collectors.toCollection(TreeSet::new));
        Check.due("the face's methods: " + own + " beside " + asked(), 1, own.equals(asked()) ? 1 : 0);
        Check.due("NONE", -1, FarVoice.NONE);
        Check.due("BAD", -2, FarVoice.BAD);
        Check.due("STATE", -3, FarVoice.STATE);
        Check.due("FULL", -4, FarVoice.FULL);
        Check.due("NO", Long.MIN_VALUE, FarVoice.NO);
    }

    /** The methods of the document's code block, without the names of what they take. */
    private static Set<String> asked() throws IOException {
        Set<String> face = new TreeSet<>();
        for (String line : Files.readAllLines(Path.of("../shared/DOC.md"))) {
            String call = line.trim();
            if (call.startsWith("public ") && call.endsWith(");") && !call.contains("FarVoice")) {
                face.add(call.substring(7, call.length() - 1).replaceAll("(int|long) \\w+(?=[,)])", "$1"));
            }
        }
        return face;
    }

    static void rule1NoPrivateNameIsAPublicOne() {
        Set<String> face = Arrays.stream(FarVoice.class.getMethods()).map(Method::getName).collect(Collectors.toSet());
        for (Map.Entry<String, MethodTree> method : Look.at(source).methods.entrySet()) {
            boolean shown = method.getValue().getModifiers().getFlags()
                .contains(javax.lang.model.element.Modifier.PUBLIC);
            if (!shown && face.contains(method.getValue().getName().toString())) {
                Check.wrong("  " + method.getKey() + " bears the name of a public one");
            }
        }
    }

    static void rule4NoImport() {
        Check.due("imports", 0, Look.at(source).imports.size());
    }

    static void rule11Sizes() {
        Look look = Look.at(source);
        if (look.classes > MOST_CLASSES) {
            Check.wrong("  classes: " + look.classes);
        }
        look.fields.forEach((name, n) -> {
            if (n > MOST_FIELDS) {
                Check.wrong("  fields of " + name + ": " + n);
            }
        });
        look.methods.forEach((name, method) -> {
            if (method.getParameters().size() > MOST_PARAMETERS) {
                Check.wrong("  parameters of " + name + ": " + method.getParameters().size());
            }
            if (look.lines.get(name) > MOST_LINES) {
                Check.wrong("  lines of " + name + ": " + look.lines.get(name));
            }
        });
    }

    /** A method that is open already counts once: what recursion adds is told by rule 8. */
    static void rule11CallsAreNotDeep() {
        Look look = Look.at(source);
        for (ExecutableElement method : look.calls.keySet()) {
            String deepest = deepest(look, method, new HashSet<>());
            if (deepest.split(" ").length > MOST_DEEP) {
                Check.wrong("  too deep: " + deepest);
            }
        }
    }

    private static String deepest(Look look, ExecutableElement method, Set<ExecutableElement> open) {
        String best = "";
        open.add(method);
        for (ExecutableElement called : look.calls.getOrDefault(method, Set.of())) {
            if (!open.contains(called) && called.getKind() == ElementKind.METHOD) {
                String way = " " + deepest(look, called, open);
                best = way.split(" ").length > best.split(" ").length ? way : best;
            }
        }
        open.remove(method);
        return method.getSimpleName() + best;
    }

    /** The room of a run is small: rows are made with the object, and only a VOICE needs one more. */
    static void rule12OnlyVoiceMakesAnObject() {
        Check.dueText("what is made", "[voice makes new Voice(voiceCount, kind, v)]", Look.at(source).makers.toString());
    }

    static void rule4NoSignAbove127() throws IOException {
        String text = Files.readString(Path.of(source));
        for (int i = 0; i < text.length(); i++) {
            if (text.charAt(i) > 127) {
                Check.wrong("  a sign above 127 at " + i);
            }
        }
    }
}
