import com.sun.source.tree.CompilationUnitTree;
import com.sun.source.tree.LineMap;
import com.sun.source.tree.MethodInvocationTree;
import com.sun.source.tree.MethodTree;
import com.sun.source.tree.NewClassTree;
import com.sun.source.util.JavacTask;
import com.sun.source.util.SourcePositions;
import com.sun.source.util.TreePathScanner;
import com.sun.source.util.Trees;
import java.io.IOException;
import java.lang.reflect.Field;
import java.lang.reflect.Method;
import java.lang.reflect.Modifier;
import java.nio.file.Files;
import java.nio.file.Path;
import java.util.ArrayList;
import java.util.HashSet;
import java.util.LinkedHashMap;
import java.util.LinkedHashSet;
import java.util.List;
import java.util.Map;
import java.util.Set;
import java.util.TreeSet;
import java.util.regex.Matcher;
import java.util.regex.Pattern;
import javax.lang.model.element.Element;
import javax.tools.JavaCompiler;
import javax.tools.StandardJavaFileManager;
import javax.tools.ToolProvider;

/** The rules of LANGUAGE.md that can be seen in the file and in what javac knows of it. */
public final class LanguageTest {
    private static final Path FILE = Path.of("src/main/java/TinyForge.java");
    private static final Set<String> EXCEPTIONS = Set.of("IllegalStateException", "IllegalArgumentException",
            "IndexOutOfBoundsException", "ArithmeticException", "UnsupportedOperationException",
            "NoSuchElementException", "RuntimeException");
    private static final Set<String> LIBRARY = Set.of("String", "StringBuilder", "ArrayList", "List", "Integer",
            "Long", "Math", "Iterator", "Iterable", "Comparable", "System", "Arrays");
    private static final Set<Class<?>> CONSTANTS = Set.of(int.class, long.class, boolean.class, char.class,
            String.class, int[].class, long[].class, char[].class, byte[].class);
    private static final String NO_WORDS = "\\b(package|finally|synchronized|assert|native|volatile)\\b|->|::"
            + "|\\bSystem\\b(?!\\.arraycopy)|\\w+Exact\\b|\\.(getMessage|hashCode)\\b";

    public static void main(String[] args) throws IOException {
        String code = codeAlone(Files.readString(FILE));
        face();
        staticFields(code);
        words(code);
        exceptions(code);
        sizes();
        methods();
        Check.end();
    }

    /** The file with its comments, texts and characters taken out, its lines kept. */
    private static String codeAlone(String file) {
        Matcher part = Pattern.compile("/\\*.*?\\*/|//[^\n]*|\"(?:\\\\.|[^\"\\\\])*\"|'(?:\\\\.|[^'\\\\])'",
                Pattern.DOTALL).matcher(file);
        return part.replaceAll(found -> {
            String left = found.group().replaceAll("[^\n]", "");
            return found.group().startsWith("/") ? left : "0";
        });
    }

    private static List<Class<?>> classes() {
        List<Class<?>> classes = new ArrayList<>(List.of(TinyForge.class));
        for (int k = 0; k < classes.size(); k++) {
            classes.addAll(List.of(classes.get(k).getDeclaredClasses()));
        }
        return classes;
    }

    private static void face() {
        Check.sentence("No private method bears the name of a public one");
        Set<String> open = new HashSet<>();
        for (Method method : TinyForge.class.getDeclaredMethods()) {
            if (Modifier.isPublic(method.getModifiers())) {
                open.add(method.getName());
            }
        }
        for (Class<?> one : classes()) {
            for (Method method : one.getDeclaredMethods()) {
                boolean isFace = one == TinyForge.class && Modifier.isPublic(method.getModifiers());
                Check.due(method.toString(), !isFace && open.contains(method.getName()), false);
            }
        }
    }

    private static void staticFields(String code) {
        Check.sentence("Static fields are final: constants");
        for (Class<?> one : classes()) {
            for (Field field : one.getDeclaredFields()) {
                if (Modifier.isStatic(field.getModifiers())) {
                    Check.due(field.toString(), CONSTANTS.contains(field.getType())
                            && Modifier.isFinal(field.getModifiers()), true);
                }
            }
        }
        Check.sentence("no static initialiser block");
        Check.due("static {", Pattern.compile("\\bstatic\\s*\\{").matcher(code).find(), false);
    }

    private static void words(String code) {
        Check.sentence("The library: only what stands here");
        Set<String> known = new HashSet<>(LIBRARY);
        known.addAll(EXCEPTIONS);
        for (String line : found("(?m)^\\s*import\\b[^\n]*", code)) {
            Matcher form = Pattern.compile("import java\\.util\\.(\\w+);").matcher(line);
            Check.due(line, form.matches() && known.contains(form.group(1)), true);
        }
        for (Class<?> one : classes()) {
            known.add(one.getSimpleName());
        }
        for (String name : found("\\b[A-Z][A-Za-z]*[a-z][A-Za-z]*\\b", code)) {
            Check.due("the name " + name, known.contains(name), true);
        }
        Check.sentence("the part of Java that the rules leave");
        Check.due("words", found(NO_WORDS, code).toString(), "[]");
    }

    private static void exceptions(String code) {
        Check.sentence("throw new E() or throw new E(\"a written text\")");
        for (String thrown : found("\\bthrow\\b[^;]*;", code)) {
            Matcher form = Pattern.compile("throw new (\\w+)\\(0?\\);").matcher(thrown);
            Check.due(thrown, form.matches() && EXCEPTIONS.contains(form.group(1)), true);
        }
    }

    private static Set<String> found(String pattern, String code) {
        Set<String> found = new TreeSet<>();
        Matcher matcher = Pattern.compile(pattern).matcher(code);
        while (matcher.find()) {
            found.add(matcher.group());
        }
        return found;
    }

    private static void sizes() {
        Check.sentence("the file has at most some twelve classes");
        Check.due("classes", classes().size() <= 12, true);
        for (Class<?> one : classes()) {
            Check.sentence("a class some twenty fields beside its constants");
            int fields = 0;
            for (Field field : one.getDeclaredFields()) {
                fields += Modifier.isStatic(field.getModifiers()) ? 0 : 1;
            }
            Check.due(fields + " fields of " + one, fields <= 20, true);
            Check.sentence("A method takes at most seven parameters");
            for (Method method : one.getDeclaredMethods()) {
                Check.due(method.toString(), method.getParameterCount() <= 7, true);
            }
        }
    }

    private static void methods() throws IOException {
        JavaCompiler compiler = ToolProvider.getSystemJavaCompiler();
        try (StandardJavaFileManager files = compiler.getStandardFileManager(null, null, null)) {
            JavacTask task = (JavacTask) compiler.getTask(null, files, null, null, null, files.getJavaFileObjects(FILE));
            CompilationUnitTree unit = task.parse().iterator().next();
            task.analyze();
            Methods methods = new Methods(Trees.instance(task), unit);
            methods.scan(unit, null);
            methods.lengths();
            methods.depth();
        }
    }

    /** The methods of the file: how long they are, and which of them each one calls. */
    private static final class Methods extends TreePathScanner<Void, Void> {
        private final Trees trees;
        private final CompilationUnitTree unit;
        private final Map<Element, Set<Element>> calls = new LinkedHashMap<>();
        private final Map<Element, Long> lines = new LinkedHashMap<>();
        private Element caller = null;

        Methods(Trees trees, CompilationUnitTree unit) {
            this.trees = trees;
            this.unit = unit;
        }

        @Override
        public Void visitMethod(MethodTree method, Void none) {
            caller = trees.getElement(getCurrentPath());
            calls.put(caller, new LinkedHashSet<>());
            SourcePositions places = trees.getSourcePositions();
            LineMap map = unit.getLineMap();
            lines.put(caller, map.getLineNumber(places.getEndPosition(unit, method))
                    - map.getLineNumber(places.getStartPosition(unit, method)) + 1);
            return super.visitMethod(method, none);
        }

        @Override
        public Void visitMethodInvocation(MethodInvocationTree call, Void none) {
            calls.get(caller).add(trees.getElement(getCurrentPath()));
            return super.visitMethodInvocation(call, none);
        }

        @Override
        public Void visitNewClass(NewClassTree made, Void none) {
            calls.get(caller).add(trees.getElement(getCurrentPath()));
            return super.visitNewClass(made, none);
        }

        void lengths() {
            Check.sentence("Methods stay short (some sixty lines)");
            for (Element method : lines.keySet()) {
                String what = lines.get(method) + " lines of " + method.getEnclosingElement() + "." + method;
                Check.due(what, lines.get(method) <= 60, true);
            }
        }

        void depth() {
            Check.sentence("calls that are no recursion go at most eight deep");
            for (Element method : calls.keySet()) {
                int depth = depthOf(method);
                Check.due(depth + " deep from " + method.getEnclosingElement() + "." + method, depth <= 8, true);
            }
        }

        /** How many methods are open at once, this one too; a recursion and what is below it is left out. */
        private int depthOf(Element method) {
            // What is not in the file is the library's, and calls nothing of the file.
            if (!calls.containsKey(method) || reaches(method, method, new HashSet<>())) {
                return 0;
            }
            int deepest = 0;
            for (Element next : calls.get(method)) {
                deepest = Math.max(deepest, depthOf(next));
            }
            return deepest + 1;
        }

        private boolean reaches(Element from, Element to, Set<Element> seen) {
            for (Element next : calls.getOrDefault(from, Set.of())) {
                if (next.equals(to) || seen.add(next) && reaches(next, to, seen)) {
                    return true;
                }
            }
            return false;
        }
    }
}
