import com.sun.source.tree.*;
import com.sun.source.util.*;
import java.lang.reflect.*;
import java.nio.charset.StandardCharsets;
import java.nio.file.*;
import java.util.*;
import javax.lang.model.element.*;
import javax.lang.model.element.Modifier;
import javax.tools.*;

/** The rules of LANGUAGE.md that can be seen in the source and in the compiled class. */
public final class LanguageTest {
    private static final Path SOURCE = Path.of("src/main/java/LalrDesk.java");
    private static final Set<String> LIBRARY = Set.of("System.arraycopy", "Arrays.fill", "Math.min", "Math.max",
        "Integer.bitCount", "Long.bitCount");
    private static final Set<String> THROWN = Set.of("IllegalStateException", "IllegalArgumentException",
        "IndexOutOfBoundsException", "ArithmeticException", "UnsupportedOperationException",
        "NoSuchElementException", "RuntimeException");
    private static final String[] FACE = {
        "feed(int,int,int,int,int)int", "text(int)int", "fault(int)int", "named(int)int", "token(int,int)int",
        "kind(int,int)int", "rule(int,int)int", "state(int,int)int", "item(int,int)int", "move(int,int)int",
        "action(int,int)int", "look(int,int)int", "after(int,int)int", "relations(int)int", "conflicts()int",
        "conflict(int,int)int", "witness(int,int)int", "shortest(int,int)int", "offset(int)int",
        "packed(int,int)int", "sentences(int)int", "read(int)int", "whole()int", "expected()int", "stack(int)int",
        "game(int,int)int", "note(int,int,boolean)int", "strike(int)int", "known(int)boolean", "missing()int",
        "ask(int,int)int", "chance(int,int)int", "tried(int,int)int", "undo()int", "keep()int", "back()int",
        "count(int)int"};

    private static int wrong = 0;

    public static void main(String[] args) throws Exception {
        checkFace();
        checkSource();
        System.out.println(wrong == 0 ? "the language is kept to" : wrong + " breaches");
        if (wrong != 0) {
            System.exit(1);
        }
    }

    private static void claim(boolean holds, String what) {
        if (!holds) {
            wrong++;
            System.out.println(what);
        }
    }

    private static void checkFace() throws Exception {
        Set<String> due = new TreeSet<>(List.of(FACE));
        Set<String> got = new TreeSet<>();
        for (Method method : LalrDesk.class.getDeclaredMethods()) {
            int flags = method.getModifiers();
            if (java.lang.reflect.Modifier.isPrivate(flags)) {
                continue;
            }
            StringJoiner types = new StringJoiner(",", "(", ")");
            for (Class<?> type : method.getParameterTypes()) {
                types.add(type.getName());
            }
            claim(java.lang.reflect.Modifier.isPublic(flags) && !java.lang.reflect.Modifier.isStatic(flags),
                "rule 1: " + method);
            got.add(method.getName() + types + method.getReturnType().getName());
        }
        claim(got.equals(due), "rule 1: the face is " + got + ", due is " + due);
        for (Field field : LalrDesk.class.getDeclaredFields()) {
            boolean isPrivate = java.lang.reflect.Modifier.isPrivate(field.getModifiers());
            claim(isPrivate || field.getName().equals("NONE"), "rule 1: field " + field);
        }
        Field none = LalrDesk.class.getField("NONE");
        claim(none.getType() == int.class && none.getInt(null) == -1, "rule 1: NONE");
        claim(List.of(LalrDesk.class.getMethod("kind", int.class, int.class).getExceptionTypes())
            .equals(List.of(IndexOutOfBoundsException.class, NoSuchElementException.class)), "kind throws");
        int flags = LalrDesk.class.getModifiers();
        claim(java.lang.reflect.Modifier.isFinal(flags) && java.lang.reflect.Modifier.isPublic(flags)
            && LalrDesk.class.getConstructors().length == 1
            && LalrDesk.class.getDeclaredConstructors().length == 1, "rule 1: the class");
        for (Class<?> inner : LalrDesk.class.getDeclaredClasses()) {
            claim(java.lang.reflect.Modifier.isStatic(inner.getModifiers())
                && !java.lang.reflect.Modifier.isPublic(inner.getModifiers()), "rule 1: " + inner);
        }
    }

    private static void checkSource() throws Exception {
        String text = Files.readString(SOURCE, StandardCharsets.ISO_8859_1);
        for (int at = 0; at < text.length(); at++) {
            char sign = text.charAt(at);
            claim(sign >= 32 && sign < 127 || sign == '\n', "rule 4: a sign at " + at);
        }
        JavaCompiler compiler = ToolProvider.getSystemJavaCompiler();
        try (StandardJavaFileManager files = compiler.getStandardFileManager(null, null, null)) {
            JavacTask task = (JavacTask) compiler.getTask(null, files, null, List.of("-proc:none"), null,
                files.getJavaFileObjects(SOURCE));
            CompilationUnitTree unit = task.parse().iterator().next();
            task.analyze();
            Walk walk = new Walk(unit, Trees.instance(task));
            walk.scan(unit, null);
            walk.finish();
        }
    }

    private static final class Walk extends TreePathScanner<Void, Void> {
        private final CompilationUnitTree unit;
        private final Trees trees;
        private final Map<String, Set<String>> calls = new TreeMap<>();
        private final Set<String> openlyStatic = new TreeSet<>();
        private final Deque<String> methods = new ArrayDeque<>();
        private int classes = 0;

        Walk(CompilationUnitTree unit, Trees trees) {
            this.unit = unit;
            this.trees = trees;
        }

        private String place(Tree tree) {
            return " at line " + line(trees.getSourcePositions().getStartPosition(unit, tree));
        }

        private long line(long position) {
            return unit.getLineMap().getLineNumber(position);
        }

        private static String nameOf(Element element) {
            return element.getEnclosingElement().getSimpleName() + "." + element;
        }

        @Override public Void visitImport(ImportTree tree, Void none) {
            String name = tree.getQualifiedIdentifier().toString();
            claim(name.equals("java.util.Arrays") || name.equals("java.util.NoSuchElementException"),
                "rule 4: import " + name);
            return super.visitImport(tree, none);
        }

        @Override public Void visitClass(ClassTree tree, Void none) {
            classes++;
            int fields = 0;
            for (Tree member : tree.getMembers()) {
                if (member instanceof VariableTree) {
                    VariableTree field = (VariableTree) member;
                    Set<Modifier> flags = field.getModifiers().getFlags();
                    if (flags.contains(Modifier.STATIC)) {
                        claim(flags.contains(Modifier.FINAL), "rule 5:" + place(field));
                    } else {
                        fields++;
                    }
                }
                claim(!(member instanceof BlockTree), "rule 5: a block" + place(member));
            }
            claim(fields <= 20, "rule 11: " + fields + " fields in " + tree.getSimpleName());
            return super.visitClass(tree, none);
        }

        @Override public Void visitMethod(MethodTree tree, Void none) {
            Element element = trees.getElement(getCurrentPath());
            String name = nameOf(element);
            claim(tree.getParameters().size() <= 7, "rule 11: parameters of " + name);
            SourcePositions positions = trees.getSourcePositions();
            long lines = line(positions.getEndPosition(unit, tree)) - line(positions.getStartPosition(unit, tree)) + 1;
            claim(lines <= 60, "rule 11: " + lines + " lines of " + name);
            if (!element.getModifiers().contains(Modifier.PUBLIC)) {
                for (String face : FACE) {
                    claim(!face.startsWith(tree.getName() + "("), "rule 1: the name of " + name);
                }
            }
            if (element.getModifiers().contains(Modifier.PRIVATE) && element.getModifiers().contains(Modifier.STATIC)) {
                openlyStatic.add(name);
            }
            methods.push(name);
            calls.put(name, new TreeSet<>());
            super.visitMethod(tree, none);
            methods.pop();
            return null;
        }

        @Override public Void visitMethodInvocation(MethodInvocationTree tree, Void none) {
            Element called = trees.getElement(new TreePath(getCurrentPath(), tree.getMethodSelect()));
            String owner = called.getEnclosingElement().toString();
            if (owner.startsWith("LalrDesk")) {
                calls.get(methods.peek()).add(nameOf(called));
            } else {
                String name = called.getEnclosingElement().getSimpleName() + "." + called.getSimpleName();
                claim(LIBRARY.contains(name) || name.equals("Object.<init>"), "rule 4: " + name + place(tree));
            }
            return super.visitMethodInvocation(tree, none);
        }

        private void claimInConstructor(Tree tree) {
            boolean isMade = methods.isEmpty() || methods.peek().matches("(\\w+)\\.\\1\\(.*\\)");
            claim(isMade, "the room: something is made" + place(tree));
        }

        @Override public Void visitNewClass(NewClassTree tree, Void none) {
            if (getCurrentPath().getParentPath().getLeaf() instanceof ThrowTree) {
                claim(THROWN.contains(tree.getIdentifier().toString()), "rule 6:" + place(tree));
                claim(tree.getArguments().size() <= 1, "rule 6:" + place(tree));
            } else {
                claimInConstructor(tree);
            }
            return super.visitNewClass(tree, none);
        }

        @Override public Void visitNewArray(NewArrayTree tree, Void none) {
            claimInConstructor(tree);
            return super.visitNewArray(tree, none);
        }

        @Override public Void visitThrow(ThrowTree tree, Void none) {
            claim(tree.getExpression() instanceof NewClassTree, "rule 6:" + place(tree));
            claim(methods.peek() != null && methods.peek().startsWith("LalrDesk.kind("), "rule 6:" + place(tree));
            return super.visitThrow(tree, none);
        }

        @Override public Void visitLambdaExpression(LambdaExpressionTree tree, Void none) {
            claim(false, "rule 2:" + place(tree));
            return null;
        }

        @Override public Void visitMemberReference(MemberReferenceTree tree, Void none) {
            claim(false, "rule 2:" + place(tree));
            return null;
        }

        @Override public Void visitTry(TryTree tree, Void none) {
            claim(false, "rule 6:" + place(tree));
            return null;
        }

        @Override public Void visitAssert(AssertTree tree, Void none) {
            claim(false, "rule 6:" + place(tree));
            return null;
        }

        @Override public Void visitSynchronized(SynchronizedTree tree, Void none) {
            claim(false, "rule 6:" + place(tree));
            return null;
        }

        @Override public Void visitTypeCast(TypeCastTree tree, Void none) {
            claim(false, "rule 6: a cast" + place(tree));
            return null;
        }

        @Override public Void visitEnhancedForLoop(EnhancedForLoopTree tree, Void none) {
            claim(false, "rule 12: a loop without an index" + place(tree));
            return null;
        }

        @Override public Void visitForLoop(ForLoopTree tree, Void none) {
            claim(tree.getCondition() != null && tree.getCondition().toString().matches(".*(<|>).*"),
                "rule 9:" + place(tree));
            return super.visitForLoop(tree, none);
        }

        @Override public Void visitWhileLoop(WhileLoopTree tree, Void none) {
            claim(tree.getCondition().toString().matches(".*(<|>).*"), "rule 9:" + place(tree));
            return super.visitWhileLoop(tree, none);
        }

        @Override public Void visitDoWhileLoop(DoWhileLoopTree tree, Void none) {
            claim(false, "rule 9:" + place(tree));
            return null;
        }

        @Override public Void visitPrimitiveType(PrimitiveTypeTree tree, Void none) {
            String name = tree.toString();
            claim(!name.equals("float") && !name.equals("double"), "rule 3:" + place(tree));
            return super.visitPrimitiveType(tree, none);
        }

        void finish() {
            claim(classes <= 12, "rule 11: " + classes + " classes");
            for (String method : calls.keySet()) {
                if (calls.get(method).contains(method)) {
                    claim(openlyStatic.contains(method), "rule 8: recursion of " + method);
                }
            }
            for (String method : calls.keySet()) {
                List<String> chain = deepest(method, new ArrayDeque<>());
                claim(chain.size() <= 8, "rule 11: " + chain.size() + " deep: " + chain);
            }
        }

        private List<String> deepest(String method, Deque<String> open) {
            List<String> best = new ArrayList<>();
            open.push(method);
            for (String called : calls.getOrDefault(method, Set.of())) {
                if (called.equals(method)) {
                    continue;
                }
                if (open.contains(called)) {
                    claim(false, "rule 8: a round of calls by " + called);
                    continue;
                }
                List<String> chain = deepest(called, open);
                if (chain.size() > best.size()) {
                    best = chain;
                }
            }
            open.pop();
            List<String> all = new ArrayList<>(List.of(method));
            all.addAll(best);
            return all;
        }
    }
}
