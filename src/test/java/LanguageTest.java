import com.sun.source.tree.ArrayTypeTree;
import com.sun.source.tree.BinaryTree;
import com.sun.source.tree.BlockTree;
import com.sun.source.tree.ClassTree;
import com.sun.source.tree.CompilationUnitTree;
import com.sun.source.tree.ForLoopTree;
import com.sun.source.tree.LiteralTree;
import com.sun.source.tree.MethodInvocationTree;
import com.sun.source.tree.MethodTree;
import com.sun.source.tree.NewClassTree;
import com.sun.source.tree.Tree;
import com.sun.source.tree.TypeCastTree;
import com.sun.source.tree.VariableTree;
import com.sun.source.util.JavacTask;
import com.sun.source.util.SourcePositions;
import com.sun.source.util.TreePathScanner;
import com.sun.source.util.Trees;
import java.lang.reflect.Method;
import java.nio.file.Files;
import java.nio.file.Path;
import java.util.ArrayDeque;
import java.util.Deque;
import java.util.EnumSet;
import java.util.List;
import java.util.Map;
import java.util.Set;
import java.util.TreeMap;
import java.util.TreeSet;
import java.util.regex.Matcher;
import java.util.regex.Pattern;
import javax.lang.model.element.Element;
import javax.lang.model.element.ElementKind;
import javax.lang.model.element.Modifier;
import javax.lang.model.element.TypeElement;
import javax.lang.model.type.TypeMirror;
import javax.tools.JavaCompiler;
import javax.tools.StandardJavaFileManager;
import javax.tools.ToolProvider;

/** The face of the document, and those rules of LANGUAGE.md that can be seen in the tree of the text. */
public final class LanguageTest {
    private static final Path CLASS = Path.of("src/main/java/CatNeed.java");
    private static final Path DOCUMENT = Path.of("../shared/DOC.md");
    private static int wrong = 0;

    private static void must(boolean so, int rule, String what) {
        if (!so) {
            wrong++;
            System.out.println("rule " + rule + ", not so: " + what);
        }
    }

    private static void face() throws Exception {
        Set<String> want = new TreeSet<>();
        Matcher line = Pattern.compile("(?m)^    public int (\\w+)\\(([^)]*)\\);").matcher(Files.readString(DOCUMENT));
        while (line.find()) {
            int takes = line.group(2).isEmpty() ? 0 : line.group(2).split(",").length;
            want.add(line.group(1) + takes);
        }
        Set<String> got = new TreeSet<>();
        for (Method method : CatNeed.class.getMethods()) {
            if (method.getDeclaringClass() == CatNeed.class) {
                got.add(method.getName() + method.getParameterCount());
                must(method.getReturnType() == int.class, 1, method.getName() + " answers an int");
                for (Class<?> type : method.getParameterTypes()) {
                    must(type == int.class, 1, method.getName() + " takes ints");
                }
            }
        }
        must(want.size() == 32 && want.equals(got), 1, "the face is " + want + ", not " + got);
        must(CatNeed.class.getConstructors().length == 1 && CatNeed.class.getDeclaredConstructors().length == 1, 1, "one constructor");
        must(CatNeed.class.getFields().length == 1 && CatNeed.NONE == -1, 1, "one public constant");
    }

    /** Goes through the tree of the class, each method by its class and name. */
    private static final class Reader extends TreePathScanner<Void, Void> {
        private static final Set<Tree.Kind> RULED_OUT = EnumSet.of(
            Tree.Kind.THROW, Tree.Kind.TRY, Tree.Kind.CATCH, Tree.Kind.SYNCHRONIZED, Tree.Kind.ASSERT, Tree.Kind.LAMBDA_EXPRESSION,
            Tree.Kind.MEMBER_REFERENCE, Tree.Kind.PACKAGE, Tree.Kind.IMPORT, Tree.Kind.ANNOTATION, Tree.Kind.BINDING_PATTERN,
            Tree.Kind.INTERSECTION_TYPE, Tree.Kind.UNION_TYPE, Tree.Kind.FLOAT_LITERAL, Tree.Kind.DOUBLE_LITERAL);
        private static final Map<String, Set<String>> LIBRARY = Map.of(
            "java.lang.String", Set.of("length", "charAt", "isEmpty", "equals", "indexOf", "substring", "toCharArray"),
            "java.lang.Integer", Set.of("bitCount", "compare", "max", "min"),
            "java.lang.Math", Set.of("abs", "max", "min", "floorDiv", "floorMod"),
            "java.lang.System", Set.of("arraycopy"));

        private final Trees trees;
        private final SourcePositions positions;
        private final CompilationUnitTree unit;
        private final Deque<String> classes = new ArrayDeque<>();
        private final Map<String, Set<String>> calls = new TreeMap<>();
        private final Set<String> publicNames = new TreeSet<>();
        private final Set<String> otherNames = new TreeSet<>();
        private String method = "";
        private int classesSeen = 0;

        Reader(JavacTask task, CompilationUnitTree unit) {
            trees = Trees.instance(task);
            positions = trees.getSourcePositions();
            this.unit = unit;
        }

        private long line(Tree tree, boolean last) {
            long at = last ? positions.getEndPosition(unit, tree) : positions.getStartPosition(unit, tree);
            return unit.getLineMap().getLineNumber(at);
        }

        private String at(Tree tree) {
            return method + ", line " + line(tree, false);
        }

        @Override
        public Void scan(Tree tree, Void none) {
            must(tree == null || !RULED_OUT.contains(tree.getKind()), 6, "no " + (tree == null ? "" : tree.getKind() + " in " + at(tree)));
            return super.scan(tree, none);
        }

        @Override
        public Void visitTypeCast(TypeCastTree tree, Void none) {
            must(tree.getType().getKind() == Tree.Kind.PRIMITIVE_TYPE, 7, "casts of numbers alone, in " + at(tree));
            return super.visitTypeCast(tree, none);
        }

        @Override
        public Void visitClass(ClassTree tree, Void none) {
            Set<Modifier> is = tree.getModifiers().getFlags();
            boolean outer = classes.isEmpty();
            classesSeen++;
            must(tree.getKind() == Tree.Kind.CLASS && !tree.getSimpleName().isEmpty(), 2, "a class with a name");
            must(classes.size() < 2, 2, "no class within a class within the class");
            if (outer) {
                must(is.equals(Set.of(Modifier.PUBLIC, Modifier.FINAL)), 1, "public and final");
            } else {
                must(is.contains(Modifier.STATIC) && !is.contains(Modifier.PUBLIC) && !is.contains(Modifier.PROTECTED), 2, tree.getSimpleName() + " is static");
                must(method.isEmpty(), 2, "no local class");
            }
            int fields = 0;
            for (Tree member : tree.getMembers()) {
                if (member instanceof VariableTree && !((VariableTree) member).getModifiers().getFlags().contains(Modifier.STATIC)) {
                    fields++;
                }
                must(!(member instanceof BlockTree), 5, "no block outside of a method");
            }
            must(fields <= 20, 11, tree.getSimpleName() + " has " + fields + " fields");
            classes.push(tree.getSimpleName().toString());
            super.visitClass(tree, none);
            classes.pop();
            return null;
        }

        @Override
        public Void visitMethod(MethodTree tree, Void none) {
            method = classes.peek() + "." + tree.getName();
            Set<Modifier> is = tree.getModifiers().getFlags();
            if (classes.size() == 1) {
                must(is.contains(Modifier.PUBLIC) || is.contains(Modifier.PRIVATE), 1, method + " is public or private");
            }
            boolean isOfFace = is.contains(Modifier.PUBLIC) && classes.size() == 1;
            (isOfFace ? publicNames : otherNames).add(tree.getName().toString());
            must(!calls.containsKey(method), 11, method + " is there once, so that calls can be told by names");
            calls.put(method, new TreeSet<>());
            must(tree.getParameters().size() <= 7, 11, method + " takes seven at most");
            must(line(tree, true) - line(tree, false) < 60, 11, method + " has some sixty lines");
            super.visitMethod(tree, none);
            method = "";
            return null;
        }

        @Override
        public Void visitVariable(VariableTree tree, Void none) {
            Set<Modifier> is = tree.getModifiers().getFlags();
            Element element = trees.getElement(getCurrentPath());
            if (is.contains(Modifier.STATIC)) {
                must(is.contains(Modifier.FINAL), 5, tree.getName() + " is final");
                boolean plain = element.asType().getKind().isPrimitive() || element.asType().toString().equals("java.lang.String");
                must(plain, 5, tree.getName() + " is a number or a text");
            } else if (method.isEmpty() && classes.size() == 1) {
                must(is.contains(Modifier.PRIVATE), 1, tree.getName() + " is private");
            }
            must(isAllowed(element.asType()), 3, tree.getName() + " is of a type that may be");
            return super.visitVariable(tree, none);
        }

        private static boolean isAllowed(TypeMirror type) {
            return type.toString().matches("(int|long|boolean|char|CatNeed\\.\\w+)(\\[\\])?|java\\.lang\\.String");
        }

        @Override
        public Void visitArrayType(ArrayTypeTree tree, Void none) {
            must(tree.getType().getKind() != Tree.Kind.ARRAY_TYPE, 3, "one dimension in " + at(tree));
            return super.visitArrayType(tree, none);
        }

        @Override
        public Void visitNewClass(NewClassTree tree, Void none) {
            boolean made = method.isEmpty() || method.endsWith("<init>");
            must(made, 12, "objects are made in constructors alone, not in " + at(tree));
            must(tree.getClassBody() == null, 2, "no class without a name in " + at(tree));
            return super.visitNewClass(tree, none);
        }

        @Override
        public Void visitForLoop(ForLoopTree tree, Void none) {
            must(tree.getCondition() != null, 9, "an end of the loop in " + at(tree));
            return super.visitForLoop(tree, none);
        }

        @Override
        public Void visitBinary(BinaryTree tree, Void none) {
            boolean joins = trees.getTypeMirror(getCurrentPath()).toString().equals("java.lang.String");
            must(!joins, 10, "texts aren't joined by + in " + at(tree));
            return super.visitBinary(tree, none);
        }

        @Override
        public Void visitLiteral(LiteralTree tree, Void none) {
            if (tree.getValue() instanceof String) {
                must(((String) tree.getValue()).chars().allMatch(sign -> sign > 0 && sign < 128), 4, "signs 1 to 127 in " + at(tree));
            }
            return super.visitLiteral(tree, none);
        }

        @Override
        public Void visitMethodInvocation(MethodInvocationTree tree, Void none) {
            Element called = trees.getElement(getCurrentPath());
            TypeElement owner = (TypeElement) called.getEnclosingElement();
            String name = owner.getQualifiedName().toString();
            if (name.equals("CatNeed") || name.startsWith("CatNeed.")) {
                if (called.getKind() != ElementKind.CONSTRUCTOR) {
                    must(!method.isEmpty(), 12, "no call outside of a method, line " + line(tree, false));
                    calls.getOrDefault(method, new TreeSet<>()).add(owner.getSimpleName() + "." + called.getSimpleName());
                }
            } else if (called.getKind() != ElementKind.CONSTRUCTOR) {
                must(LIBRARY.getOrDefault(name, Set.of()).contains(called.getSimpleName().toString()), 4, "no " + name + "." + called.getSimpleName());
            }
            return super.visitMethodInvocation(tree, none);
        }

        /** The most calls that stand open at once from here, no method twice. */
        private int depth(String from, Deque<String> open) {
            int deepest = 0;
            open.push(from);
            for (String to : calls.getOrDefault(from, Set.of())) {
                if (!open.contains(to)) {
                    deepest = Math.max(deepest, depth(to, open));
                }
            }
            open.pop();
            return deepest + 1;
        }

        private boolean reaches(String from, String to, Set<String> seen) {
            for (String next : calls.getOrDefault(from, Set.of())) {
                if (next.equals(to) || seen.add(next) && reaches(next, to, seen)) {
                    return true;
                }
            }
            return false;
        }

        void closing() {
            must(classesSeen <= 13, 11, classesSeen + " classes");
            must(calls.size() > 100, 11, "methods are found");
            for (String name : publicNames) {
                must(!otherNames.contains(name) || name.equals("<init>"), 1, name + " bears no public name");
                int depth = depth("CatNeed." + name, new ArrayDeque<>());
                must(depth <= 8, 11, name + " goes " + depth + " deep");
            }
            for (String name : calls.keySet()) {
                boolean recurs = reaches(name, name, new TreeSet<>());
                boolean carriesDepth = name.equals("RuleReader.readTest") || name.equals("RuleReader.readFact");
                must(!recurs || carriesDepth, 8, name + " calls itself with its depth as an argument");
            }
        }
    }

    private static void text() throws Exception {
        JavaCompiler compiler = ToolProvider.getSystemJavaCompiler();
        if (compiler == null) {
            must(false, 0, "a compiler is there");
            return;
        }
        try (StandardJavaFileManager files = compiler.getStandardFileManager(null, null, null)) {
            JavacTask task = (JavacTask) compiler.getTask(null, files, null, List.of("-proc:none"), null, files.getJavaFileObjects(CLASS));
            CompilationUnitTree unit = task.parse().iterator().next();
            task.analyze();
            Reader reader = new Reader(task, unit);
            reader.scan(unit, null);
            reader.closing();
        }
    }

    public static void main(String[] args) throws Exception {
        face();
        text();
        System.out.println(wrong == 0 ? "language: all is so" : "language: " + wrong + " are not so");
        if (wrong != 0) {
            System.exit(1);
        }
    }
}
