import com.sun.source.tree.BinaryTree;
import com.sun.source.tree.ClassTree;
import com.sun.source.tree.CompilationUnitTree;
import com.sun.source.tree.LambdaExpressionTree;
import com.sun.source.tree.LineMap;
import com.sun.source.tree.MemberReferenceTree;
import com.sun.source.tree.MethodInvocationTree;
import com.sun.source.tree.MethodTree;
import com.sun.source.tree.NewArrayTree;
import com.sun.source.tree.NewClassTree;
import com.sun.source.tree.ThrowTree;
import com.sun.source.tree.Tree;
import com.sun.source.tree.TryTree;
import com.sun.source.tree.VariableTree;
import com.sun.source.util.JavacTask;
import com.sun.source.util.SourcePositions;
import com.sun.source.util.TreePath;
import com.sun.source.util.TreePathScanner;
import com.sun.source.util.Trees;
import java.io.File;
import java.lang.reflect.Array;
import java.lang.reflect.Field;
import java.lang.reflect.Method;
import java.lang.reflect.Modifier;
import java.util.ArrayDeque;
import java.util.Arrays;
import java.util.Collections;
import java.util.Deque;
import java.util.IdentityHashMap;
import java.util.List;
import java.util.Map;
import java.util.Set;
import java.util.TreeMap;
import java.util.TreeSet;
import javax.lang.model.element.Element;
import javax.lang.model.element.ElementKind;
import javax.lang.model.element.ExecutableElement;
import javax.lang.model.element.VariableElement;
import javax.tools.JavaCompiler;
import javax.tools.StandardJavaFileManager;
import javax.tools.ToolProvider;

/** What of ../shared/LANGUAGE.md a program can see: the face, the sizes, the library, what is made and where. */
public final class RulesTest {
    private static final Set<String> FACE = new TreeSet<>(Arrays.asList(
        "int feed(int,int,int,int,int)", "boolean end(int)", "int plain()", "int fault()", "int field(int,int)",
        "int mill(int,int)", "int height(int,int)", "int bank(int,int)", "int bed(int)", "int side(int,int)", "int now(int)",
        "int dig(int,int,int)", "int lay(int,int,int)", "int roll(int,int,int)", "int spring(int)", "int years(int,int)",
        "int undo()", "int would()", "int wouldAt(int)", "int wouldBe(int)", "int tempted(int,int,int)",
        "int temptedAt(int)", "int duel(int)", "int duelAt(int)", "int pushed(int,int)", "int pushedAt(int)",
        "int ago(int,int)", "int shares(int,int,int,int)", "int ran()", "int ranAt(int)", "int sure(int)",
        "int odds(int,int,int,int,int)", "int richest(int)", "int deed(int)", "int byteAt(int)", "int book(int)",
        "int told(int)", "int sentence()", "int said(int)", "boolean image(int)", "boolean restore(int)", "int count(int)"));
    private static final Set<String> LIBRARY = new TreeSet<>(Arrays.asList("Math.abs", "Math.min", "Math.max",
        "Integer.bitCount", "System.arraycopy", "String.length", "String.charAt"));
    private static final Set<String> NAMES = new TreeSet<>();

    public static void main(String[] args) throws Exception {
        for (String method : FACE) {
            NAMES.add(method.substring(method.indexOf(' ') + 1, method.indexOf('(')));
        }
        face();
        source();
        room();
        Check.end("RulesTest");
    }

    private static void face() {
        Set<String> open = new TreeSet<>();
        for (Method m : BanksDealt.class.getDeclaredMethods()) {
            if (Modifier.isPrivate(m.getModifiers())) {
                Check.due("the private " + m.getName() + " bears a name of the face", NAMES.contains(m.getName()), false);
                continue;
            }
            StringBuilder text = new StringBuilder(m.getReturnType() + " " + m.getName() + "(");
            for (Class<?> p : m.getParameterTypes()) {
                text.append(text.charAt(text.length() - 1) == '(' ? "" : ",").append(p);
            }
            open.add(text.append(")").toString());
            Check.due(m.getName() + " is public and no more", m.getModifiers(), Modifier.PUBLIC);
        }
        Check.dueText("methods that are not private", open.toString(), FACE.toString());
        for (Field f : BanksDealt.class.getDeclaredFields()) {
            Check.due(f + " is private", Modifier.isPrivate(f.getModifiers()), !f.getName().equals("NONE"));
        }
        for (Class<?> c : BanksDealt.class.getDeclaredClasses()) {
            Check.due(c + " is static", Modifier.isStatic(c.getModifiers()), true);
            for (Method m : c.getDeclaredMethods()) {
                Check.due(c + "'s " + m.getName() + " bears a name of the face", NAMES.contains(m.getName()), false);
            }
        }
        Check.due("constructors", BanksDealt.class.getDeclaredConstructors().length, 1);
        Check.due("it is public and final", BanksDealt.class.getModifiers(), Modifier.PUBLIC | Modifier.FINAL);
    }

    private static void source() throws Exception {
        JavaCompiler compiler = ToolProvider.getSystemJavaCompiler();
        try (StandardJavaFileManager files = compiler.getStandardFileManager(null, null, null)) {
            JavacTask task = (JavacTask) compiler.getTask(null, files, null, List.of("-proc:none"), null,
                files.getJavaFileObjects(new File("src/main/java/BanksDealt.java")));
            Trees trees = Trees.instance(task);
            for (CompilationUnitTree unit : task.parse()) {
                task.analyze();
                Rules rules = new Rules(trees, unit);
                rules.scan(unit, null);
                Check.due("classes, at most 12", rules.classes <= 12, true);
                Check.due("methods were seen", rules.methods > 100, true);
                rules.depths();
            }
        }
    }

    private static final Set<javax.lang.model.element.Modifier> ALONE = Set.of(
        javax.lang.model.element.Modifier.PRIVATE, javax.lang.model.element.Modifier.STATIC);

    private static final class Rules extends TreePathScanner<Void, Void> {
        private final Trees trees;
        private final CompilationUnitTree unit;
        private final Map<String, Set<String>> calls = new TreeMap<>();
        private String inMethod;
        private int classes;
        private int methods;

        Rules(Trees trees, CompilationUnitTree unit) {
            this.trees = trees;
            this.unit = unit;
        }

        private void never(boolean is, String what, Tree at) {
            LineMap lines = unit.getLineMap();
            long line = lines.getLineNumber(trees.getSourcePositions().getStartPosition(unit, at));
            Check.due("line " + line + ": " + what, is, false);
        }

        @Override
        public Void visitClass(ClassTree c, Void v) {
            classes++;
            int fields = 0;
            for (Tree member : c.getMembers()) {
                if (member instanceof VariableTree) {
                    Set<javax.lang.model.element.Modifier> is = ((VariableTree) member).getModifiers().getFlags();
                    boolean isStatic = is.contains(javax.lang.model.element.Modifier.STATIC);
                    fields += isStatic ? 0 : 1;
                    never(isStatic && !is.contains(javax.lang.model.element.Modifier.FINAL), "a static that is not final",
                        member);
                }
            }
            never(fields > 20, c.getSimpleName() + " has " + fields + " fields", c);
            return super.visitClass(c, v);
        }

        @Override
        public Void visitMethod(MethodTree m, Void v) {
            methods++;
            SourcePositions at = trees.getSourcePositions();
            long from = unit.getLineMap().getLineNumber(at.getStartPosition(unit, m));
            long to = at.getEndPosition(unit, m) < 0 ? from : unit.getLineMap().getLineNumber(at.getEndPosition(unit, m));
            never(to - from >= 60, m.getName() + " has " + (to - from + 1) + " lines", m);
            never(m.getParameters().size() > 7, m.getName() + " takes more than seven", m);
            inMethod = named(trees.getElement(getCurrentPath()));
            calls.putIfAbsent(inMethod, new TreeSet<>());
            return super.visitMethod(m, v);
        }

        private static String named(Element method) {
            return method.getEnclosingElement().getSimpleName() + "." + method.getSimpleName();
        }

        /** Each method once, what calls itself round others too: what rule 11 leaves out is counted here. */
        void depths() {
            for (String method : calls.keySet()) {
                int deep = deepest(method, new ArrayDeque<>());
                Check.due(method + " goes " + deep + " calls deep, eight at most", deep <= 8, true);
            }
        }

        private int deepest(String method, Deque<String> open) {
            if (open.contains(method)) {
                return 0;
            }
            open.push(method);
            int most = 0;
            for (String next : calls.getOrDefault(method, Set.of())) {
                most = Math.max(most, deepest(next, open));
            }
            open.pop();
            return 1 + most;
        }

        @Override
        public Void visitMethodInvocation(MethodInvocationTree call, Void v) {
            Element e = trees.getElement(new TreePath(getCurrentPath(), call.getMethodSelect()));
            String owner = e.getEnclosingElement().getSimpleName().toString();
            boolean own = e.getEnclosingElement().toString().startsWith("BanksDealt");
            boolean made = e instanceof ExecutableElement && e.getKind() == ElementKind.CONSTRUCTOR;
            if (own && inMethod != null) {
                calls.get(inMethod).add(named(e));
                never(inMethod.equals(named(e)) && !e.getModifiers().containsAll(ALONE),
                    "a method that calls itself and is not private and static", call);
            }
            never(!own && !made && !LIBRARY.contains(owner + "." + e.getSimpleName()),
                owner + "." + e.getSimpleName() + " of the library", call);
            return super.visitMethodInvocation(call, v);
        }

        /** Calls make nothing: all that is made is made with the object, or thrown. */
        private void made(Tree what) {
            boolean ahead = false;
            for (TreePath p = getCurrentPath(); p != null; p = p.getParentPath()) {
                Tree t = p.getLeaf();
                ahead |= t instanceof ThrowTree;
                ahead |= t instanceof MethodTree && ((MethodTree) t).getReturnType() == null;
                Element e = t instanceof VariableTree ? trees.getElement(p) : null;
                ahead |= e instanceof VariableElement && e.getKind() == ElementKind.FIELD;
            }
            never(!ahead, "something is made by a call", what);
        }

        @Override
        public Void visitNewClass(NewClassTree n, Void v) {
            made(n);
            return super.visitNewClass(n, v);
        }

        @Override
        public Void visitNewArray(NewArrayTree n, Void v) {
            made(n);
            return super.visitNewArray(n, v);
        }

        @Override
        public Void visitThrow(ThrowTree t, Void v) {
            String text = t.getExpression().toString();
            never(!text.equals("new NoSuchElementException()"), "throws " + text, t);
            return super.visitThrow(t, v);
        }

        @Override
        public Void visitTry(TryTree t, Void v) {
            never(true, "a try", t);
            return super.visitTry(t, v);
        }

        @Override
        public Void visitLambdaExpression(LambdaExpressionTree l, Void v) {
            never(true, "a lambda", l);
            return super.visitLambdaExpression(l, v);
        }

        @Override
        public Void visitMemberReference(MemberReferenceTree r, Void v) {
            never(true, "a method reference", r);
            return super.visitMemberReference(r, v);
        }

        @Override
        public Void visitBinary(BinaryTree b, Void v) {
            String type = String.valueOf(trees.getTypeMirror(getCurrentPath()));
            never(type.startsWith("java.lang.String"), "texts joined by +", b);
            return super.visitBinary(b, v);
        }
    }

    /** Objects with their fields and elements, as one object of the class holds them. */
    private static void room() throws Exception {
        BanksDealt b = new BanksDealt();
        Set<Object> seen = Collections.newSetFromMap(new IdentityHashMap<>());
        Deque<Object> open = new ArrayDeque<>();
        open.add(b);
        long elements = 0;
        // By the source's shape alone: private fields of a class without a module may be looked into.
        while (!open.isEmpty()) {
            Object o = open.remove();
            if (o == null || !seen.add(o)) {
                continue;
            }
            if (o.getClass().isArray()) {
                elements += Array.getLength(o);
                for (int i = 0; i < Array.getLength(o) && !o.getClass().getComponentType().isPrimitive(); i++) {
                    open.add(Array.get(o, i));
                }
                continue;
            }
            for (Field f : o.getClass().getDeclaredFields()) {
                if (!Modifier.isStatic(f.getModifiers())) {
                    f.setAccessible(true);
                    elements++;
                    if (!f.getType().isPrimitive() && f.get(o) != null) {
                        open.add(f.get(o));
                    }
                }
            }
        }
        System.out.println("one object: " + seen.size() + " objects and arrays, " + elements + " fields and elements");
        Check.due("objects and arrays, at most 300", seen.size() <= 300, true);
        Check.due("fields and elements, at most 8000", elements <= 8000, true);
    }
}
