import com.sun.source.tree.*;
import com.sun.source.util.JavacTask;
import com.sun.source.util.SourcePositions;
import com.sun.source.util.TreeScanner;
import com.sun.source.util.Trees;
import java.io.File;
import java.lang.reflect.Constructor;
import java.lang.reflect.Field;
import java.lang.reflect.Method;
import java.lang.reflect.Modifier;
import java.nio.file.Files;
import java.nio.file.Path;
import java.util.List;
import java.util.Set;
import java.util.TreeSet;
import javax.lang.model.element.TypeElement;
import javax.lang.model.element.VariableElement;
import javax.lang.model.element.ExecutableElement;
import javax.tools.JavaCompiler;
import javax.tools.ToolProvider;

/** What of LANGUAGE.md can be seen in the source and in the compiled class, and the face that the document tells. */
public final class Language {
    private static final String FILE = "src/main/java/RowRules.java";
    /** As patterns of whole names. */
    private static final String[] LIBRARY = {
        "java.lang.(Object|Record|Enum).<init>", "java.lang.String.(length|charAt|isEmpty|equals|indexOf|substring|toCharArray)",
        "java.lang.StringBuilder.(append|charAt|setCharAt|setLength|deleteCharAt|reverse|length|toString)",
        "java.util.(Array)?List.(add|get|set|remove|size|isEmpty|clear|iterator|of)",
        "java.lang.(Integer|Long|Math).[a-z][A-Za-z]*(?<!Exact)", "java.util.Iterator.(hasNext|next)", "java.lang.Iterable.iterator",
        "java.lang.Comparable.compareTo", "java.lang.System.arraycopy", "java.util.Arrays.(copyOf|copyOfRange|fill)", "Array.clone"};
    private static final Set<String> TYPES = Set.of("int", "long", "short", "byte", "char", "boolean", "double", "float", "String",
        "StringBuilder", "Integer", "ArrayList", "List", "Iterator", "Iterable", "Comparable");
    private static final String[] FACE = {
        "int set(int,int)", "int way(int,int,int,int)", "int unway(int,int,int,int)", "int empty()", "int letter(int)", "int letterAt(int)",
        "int forbid()", "int unforbid()", "int byWords(int)", "int about(int,int)", "int live(int,int)", "int may(int)", "long howMany(int,int)",
        "long loops(int,int)", "int rounds(int,int)", "long growth(int,int,int)", "int same(int,int)", "int part(int,int)", "int pace(int,int)",
        "int window(int)", "int tells(int,int)", "int maps(int,int)", "int weights(int,int,int,int)", "int weight(int,int,int,int,int)",
        "int count(int)", "long digest()"};
    private static int wrong = 0;

    private static void rule(int number, boolean kept, String what) {
        if (!kept) {
            wrong++;
            System.out.println("rule " + number + ": " + what);
        }
    }

    public static void main(String[] args) throws Exception {
        lookAtFace();
        lookAtClasses();
        lookAtSource();
        System.out.println(wrong == 0 ? "the rules that can be seen are kept" : wrong + " places against the rules");
        if (wrong != 0) {
            System.exit(1);
        }
    }

    private static void lookAtFace() {
        Set<String> want = new TreeSet<>(List.of(FACE));
        Set<String> got = new TreeSet<>();
        Set<String> names = new TreeSet<>();
        for (Method m : RowRules.class.getDeclaredMethods()) {
            if (Modifier.isPublic(m.getModifiers())) {
                StringBuilder text = new StringBuilder(m.getReturnType() + " " + m.getName() + "(");
                for (Class<?> p : m.getParameterTypes()) {
                    text.append(text.charAt(text.length() - 1) == '(' ? "" : ",").append(p);
                }
                got.add(text + ")");
                names.add(m.getName());
                rule(1, !Modifier.isStatic(m.getModifiers()), m + " is static");
            } else {
                rule(1, Modifier.isPrivate(m.getModifiers()), m + " can be seen");
            }
        }
        rule(1, want.equals(got), "the face is " + got);
        rule(1, Modifier.isFinal(RowRules.class.getModifiers()) && Modifier.isPublic(RowRules.class.getModifiers()), "the class is not public and final");
        Constructor<?>[] made = RowRules.class.getDeclaredConstructors();
        rule(1, made.length == 1 && Modifier.isPublic(made[0].getModifiers()) && made[0].getParameterCount() == 0, "constructors");
        for (Field f : RowRules.class.getDeclaredFields()) {
            boolean told = Set.of("NONE", "BAD", "NO", "FULL", "SPENT").contains(f.getName());
            rule(1, told ? Modifier.isPublic(f.getModifiers()) : Modifier.isPrivate(f.getModifiers()), f + " can be seen");
        }
        for (Method m : RowRules.class.getDeclaredMethods()) {
            rule(1, Modifier.isPublic(m.getModifiers()) || !names.contains(m.getName()), m + " bears a name of the face");
        }
    }

    private static void lookAtClasses() {
        Class<?>[] inside = RowRules.class.getDeclaredClasses();
        rule(11, inside.length <= 13, "too many classes");
        lookAtFields(RowRules.class);
        for (Class<?> c : inside) {
            rule(2, Modifier.isStatic(c.getModifiers()), c + " is not static");
            rule(1, !Modifier.isPublic(c.getModifiers()) && !Modifier.isProtected(c.getModifiers()), c + " can be seen");
            lookAtFields(c);
        }
    }

    private static void lookAtFields(Class<?> c) {
        int own = 0;
        for (Field f : c.getDeclaredFields()) {
            if (!Modifier.isStatic(f.getModifiers())) {
                own++;
            } else {
                rule(5, Modifier.isFinal(f.getModifiers()), f + " is static state");
            }
        }
        rule(11, own <= 20, c + " has " + own + " fields");
    }

    private static void lookAtSource() throws Exception {
        String source = Files.readString(Path.of(FILE));
        rule(4, source.chars().allMatch(sign -> sign < 128), "signs");
        JavaCompiler compiler = ToolProvider.getSystemJavaCompiler();
        var files = compiler.getStandardFileManager(null, null, null);
        JavacTask task = (JavacTask) compiler.getTask(null, files, null, List.of("-proc:none"), null, files.getJavaFileObjects(new File(FILE)));
        CompilationUnitTree unit = task.parse().iterator().next();
        task.analyze();
        Look look = new Look(unit, Trees.instance(task));
        rule(1, unit.getPackageName() == null, "a package line");
        rule(1, unit.getTypeDecls().size() == 1, "more than one class outside");
        for (ImportTree i : unit.getImports()) {
            rule(4, Set.of("java.util.Arrays", "java.util.List", "java.util.ArrayList", "java.util.Iterator").contains(i.getQualifiedIdentifier().toString()), i.toString());
        }
        look.scan(unit, null);
    }

    private static final class Look extends TreeScanner<Void, Void> {
        final CompilationUnitTree unit;
        final Trees trees;
        final SourcePositions places;

        Look(CompilationUnitTree unit, Trees trees) {
            this.unit = unit;
            this.trees = trees;
            places = trees.getSourcePositions();
        }

        long line(Tree t, boolean end) {
            return unit.getLineMap().getLineNumber(end ? places.getEndPosition(unit, t) : places.getStartPosition(unit, t));
        }

        void never(int number, Tree t) {
            rule(number, false, "line " + line(t, false) + ": " + t);
        }

        @Override public Void visitMethod(MethodTree t, Void v) {
            rule(11, t.getParameters().size() <= 7, t.getName() + " takes too many parameters");
            rule(11, line(t, true) - line(t, false) < 70, t.getName() + " is too long");
            return super.visitMethod(t, v);
        }

        @Override public Void visitMethodInvocation(MethodInvocationTree t, Void v) {
            var element = trees.getElement(trees.getPath(unit, t.getMethodSelect()));
            if (element instanceof ExecutableElement called) {
                String owner = ((TypeElement) called.getEnclosingElement()).getQualifiedName().toString();
                String name = owner + "." + called.getSimpleName();
                rule(4, owner.startsWith("RowRules") || isInLibrary(name), name + " is called");
            }
            return super.visitMethodInvocation(t, v);
        }

        private boolean isInLibrary(String name) {
            for (String some : LIBRARY) {
                if (name.matches(some)) {
                    return true;
                }
            }
            return false;
        }

        @Override public Void visitVariable(VariableTree t, Void v) {
            String type = String.valueOf(t.getType());
            String plain = type.replaceAll("<.*>|\\[\\]", "");
            rule(3, TYPES.contains(plain) || isOwn(plain), "a variable of " + type);
            var element = (VariableElement) trees.getElement(trees.getPath(unit, t));
            rule(3, element != null, "an unknown variable " + t);
            return super.visitVariable(t, v);
        }

        private static boolean isOwn(String type) {
            for (Class<?> c : RowRules.class.getDeclaredClasses()) {
                if (c.getSimpleName().equals(type)) {
                    return true;
                }
            }
            return type.equals("RowRules") || type.matches("[A-Z]");
        }

        @Override public Void visitNewClass(NewClassTree t, Void v) {
            if (t.getClassBody() != null) {
                never(2, t);
            }
            return super.visitNewClass(t, v);
        }

        @Override public Void visitThrow(ThrowTree t, Void v) { never(6, t); return null; }
        @Override public Void visitTry(TryTree t, Void v) { never(6, t); return null; }
        @Override public Void visitSynchronized(SynchronizedTree t, Void v) { never(6, t); return null; }
        @Override public Void visitAssert(AssertTree t, Void v) { never(6, t); return null; }
        @Override public Void visitLambdaExpression(LambdaExpressionTree t, Void v) { never(2, t); return null; }
        @Override public Void visitMemberReference(MemberReferenceTree t, Void v) { never(2, t); return null; }
    }
}
