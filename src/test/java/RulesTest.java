import com.sun.source.tree.*;
import com.sun.source.util.JavacTask;
import com.sun.source.util.TreePath;
import com.sun.source.util.TreePathScanner;
import com.sun.source.util.Trees;
import java.io.File;
import java.io.IOException;
import java.nio.file.Files;
import java.nio.file.Path;
import java.util.HashMap;
import java.util.HashSet;
import java.util.List;
import java.util.Map;
import java.util.Set;
import java.util.TreeSet;
import javax.lang.model.element.Element;
import javax.lang.model.element.ElementKind;
import javax.lang.model.element.ExecutableElement;
import javax.lang.model.element.Modifier;
import javax.lang.model.element.TypeElement;
import javax.tools.JavaCompiler;
import javax.tools.StandardJavaFileManager;
import javax.tools.ToolProvider;

/** Holds the class against the rules of LANGUAGE.md that can be seen from the code. */
public final class RulesTest {
    private static final String FILE = "src/main/java/TideWords.java";
    /** Rule 4: the classes of the library, and what may be called of them; a class's own name makes a new object. */
    private static final Map<String, Set<String>> LIBRARY = Map.ofEntries(
        Map.entry("java.lang.Object", Set.of("<init>", "clone")),
        Map.entry("java.lang.Record", Set.of("<init>")),
        Map.entry("java.lang.Enum", Set.of("<init>", "ordinal", "compareTo")),
        Map.entry("java.lang.String", Set.of("<init>", "length", "charAt", "isEmpty", "equals", "indexOf", "substring", "toCharArray")),
        Map.entry("java.lang.StringBuilder", Set.of("<init>", "append", "charAt", "setCharAt", "setLength", "deleteCharAt", "reverse", "length", "toString")),
        Map.entry("java.util.ArrayList", Set.of("<init>", "add", "get", "set", "remove", "size", "isEmpty", "clear")),
        Map.entry("java.util.List", Set.of("of", "add", "get", "set", "remove", "size", "isEmpty", "clear")),
        Map.entry("java.util.Iterator", Set.of("hasNext", "next")),
        Map.entry("java.lang.Iterable", Set.of("iterator")),
        Map.entry("java.lang.Comparable", Set.of("compareTo")),
        Map.entry("java.lang.System", Set.of("arraycopy")),
        Map.entry("java.util.Arrays", Set.of("copyOf", "copyOfRange", "fill")));
    private static final Set<String> WITH_STATIC_FUNCTIONS = Set.of("java.lang.Integer", "java.lang.Long", "java.lang.Math");
    /** Rules 2 and 6; and a switch expression, which no rule names. */
    private static final Set<Tree.Kind> BANNED = Set.of(Tree.Kind.THROW, Tree.Kind.TRY, Tree.Kind.CATCH, Tree.Kind.SYNCHRONIZED,
        Tree.Kind.ASSERT, Tree.Kind.LAMBDA_EXPRESSION, Tree.Kind.MEMBER_REFERENCE, Tree.Kind.PACKAGE, Tree.Kind.SWITCH_EXPRESSION);
    private static final String CONSTANT = "public static final int ";
    /** The public members as the document declares them, and as the class does. */
    private static final Set<String> face = new TreeSet<>();
    private static final Set<String> members = new TreeSet<>();

    private static int wrong = 0;
    private static int classes = 0;
    private static final Map<Element, Set<Element>> calls = new HashMap<>();

    public static void main(String[] args) throws Exception {
        readFace();
        JavaCompiler compiler = ToolProvider.getSystemJavaCompiler();
        StandardJavaFileManager files = compiler.getStandardFileManager(null, null, null);
        JavacTask task = (JavacTask) compiler.getTask(null, files, null, List.of("-proc:none"), null, files.getJavaFileObjects(new File(FILE)));
        CompilationUnitTree unit = task.parse().iterator().next();
        task.analyze();
        new Rules(Trees.instance(task), unit).scan(unit, null);
        check(classes <= 12, "classes in the file: " + classes);
        for (Element method : calls.keySet()) {
            int depth = depthOf(method, new HashSet<>());
            check(depth <= 8, method + " goes " + depth + " calls deep");
        }
        face.forEach(declared -> check(members.contains(declared), "the class lacks " + declared));
        members.forEach(declared -> check(face.contains(declared), "the document does not declare " + declared));
        System.out.println(wrong == 0 ? "the class keeps to the rules" : wrong + " rules are broken");
        System.exit(wrong == 0 ? 0 : 1);
    }

    private static void readFace() throws IOException {
        String block = Files.readString(Path.of("../shared/DOC.md")).replaceFirst("(?s).*## The public face\\s+```java", "").replaceFirst("(?s)```.*", "");
        for (String line : block.lines().map(String::strip).filter(line -> line.startsWith("public")).toList()) {
            String declared = line.replaceFirst("[;{]$", "").strip();
            boolean isConstants = declared.startsWith(CONSTANT);
            for (String one : isConstants ? declared.substring(CONSTANT.length()).split(", ") : new String[] {declared}) {
                face.add(isConstants ? CONSTANT + one : one);
            }
        }
    }

    private static boolean isOfTheFace(String method) {
        return face.stream().anyMatch(declared -> declared.contains(" " + method + "("));
    }

    private static void check(boolean holds, String rule) {
        if (!holds) {
            wrong++;
            System.out.println(rule);
        }
    }

    private static int depthOf(Element method, Set<Element> open) {
        if (!open.add(method)) {
            return 1000;
        }
        int deepest = 0;
        for (Element called : calls.getOrDefault(method, Set.of())) {
            deepest = Math.max(deepest, depthOf(called, open));
        }
        open.remove(method);
        return deepest + 1;
    }

    private static final class Rules extends TreePathScanner<Void, Void> {
        private final Trees trees;
        private final CompilationUnitTree unit;
        private Element method;

        Rules(Trees trees, CompilationUnitTree unit) {
            this.trees = trees;
            this.unit = unit;
        }

        private long line(Tree tree, boolean atEnd) {
            long place = atEnd ? trees.getSourcePositions().getEndPosition(unit, tree) : trees.getSourcePositions().getStartPosition(unit, tree);
            return place < 0 ? -1 : unit.getLineMap().getLineNumber(place);
        }

        @Override
        public Void scan(Tree tree, Void none) {
            if (tree != null) {
                check(!BANNED.contains(tree.getKind()), "line " + line(tree, false) + ": " + tree.getKind());
            }
            return super.scan(tree, none);
        }

        @Override
        public Void visitClass(ClassTree tree, Void none) {
            classes++;
            TypeElement type = (TypeElement) trees.getElement(getCurrentPath());
            boolean isOutermost = type.getSimpleName().contentEquals("TideWords");
            Set<Modifier> modifiers = type.getModifiers();
            check(isOutermost || modifiers.contains(Modifier.STATIC) && !modifiers.contains(Modifier.PUBLIC), type + " is not static, or public");
            noteMember(type, tree.getModifiers(), "class " + tree.getSimpleName());
            int fields = 0;
            for (Element member : type.getEnclosedElements()) {
                boolean isConstant = member.getModifiers().contains(Modifier.STATIC);
                if (member.getKind() == ElementKind.FIELD) {
                    fields += isConstant ? 0 : 1;
                    check(!isConstant || member.getModifiers().contains(Modifier.FINAL), member + " is static and not final");
                }
                check(!isOutermost || member instanceof TypeElement || member.getModifiers().contains(Modifier.PRIVATE)
                    || member.getModifiers().contains(Modifier.PUBLIC), member + " is neither private nor public");
            }
            check(fields <= 20, type + " has " + fields + " fields");
            return super.visitClass(tree, none);
        }

        @Override
        public Void visitMethod(MethodTree tree, Void none) {
            Element before = method;
            method = trees.getElement(getCurrentPath());
            calls.putIfAbsent(method, new HashSet<>());
            String name = tree.getName().toString();
            check(tree.getParameters().size() <= 7, name + " takes more than 7 parameters");
            check(line(tree, true) - line(tree, false) < 60, name + " is longer than 60 lines");
            check(method.getModifiers().contains(Modifier.PUBLIC) || !isOfTheFace(name), name + " is the name of a public method");
            String type = tree.getReturnType() == null ? "TideWords" : tree.getReturnType() + " " + name;
            noteMember(method, tree.getModifiers(), type + "(" + tree.getParameters().toString().replace(",", ", ") + ")");
            super.visitMethod(tree, none);
            method = before;
            return null;
        }

        @Override
        public Void visitVariable(VariableTree tree, Void none) {
            noteMember(trees.getElement(getCurrentPath()), tree.getModifiers(), tree.getType() + " " + tree.getName() + " = " + tree.getInitializer());
            return super.visitVariable(tree, none);
        }

        /** What is public in the outermost class belongs to the face. */
        private void noteMember(Element member, ModifiersTree modifiers, String declared) {
            boolean isInside = member.getEnclosingElement().getEnclosingElement() instanceof TypeElement;
            if (modifiers.getFlags().contains(Modifier.PUBLIC) && !isInside) {
                StringBuilder whole = new StringBuilder();
                modifiers.getFlags().forEach(flag -> whole.append(flag).append(' '));
                members.add(whole + declared);
            }
        }

        @Override
        public Void visitMethodInvocation(MethodInvocationTree tree, Void none) {
            called(trees.getElement(new TreePath(getCurrentPath(), tree.getMethodSelect())), tree);
            return super.visitMethodInvocation(tree, none);
        }

        @Override
        public Void visitNewClass(NewClassTree tree, Void none) {
            check(tree.getClassBody() == null, "line " + line(tree, false) + ": an anonymous class");
            called(trees.getElement(getCurrentPath()), tree);
            return super.visitNewClass(tree, none);
        }

        @Override
        public Void visitBinary(BinaryTree tree, Void none) {
            String type = String.valueOf(trees.getTypeMirror(getCurrentPath()));
            check(!type.equals("java.lang.String"), "line " + line(tree, false) + ": texts are joined by +");
            return super.visitBinary(tree, none);
        }

        private void called(Element target, Tree tree) {
            ExecutableElement callee = (ExecutableElement) target;
            TypeElement owner = (TypeElement) callee.getEnclosingElement();
            String type = owner.getQualifiedName().toString();
            boolean isOwn = type.startsWith("TideWords");
            check(isOwn || isInLibrary(type, callee), "line " + line(tree, false) + ": " + type + "." + callee.getSimpleName());
            if (method != null && isOwn) {
                calls.get(method).add(callee);
            }
        }

        private static boolean isInLibrary(String type, ExecutableElement callee) {
            String name = callee.getSimpleName().toString();
            if (WITH_STATIC_FUNCTIONS.contains(type)) {
                return callee.getModifiers().contains(Modifier.STATIC) && !name.endsWith("Exact");
            }
            return LIBRARY.getOrDefault(type, Set.of()).contains(name);
        }
    }
}
