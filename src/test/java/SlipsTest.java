import java.io.ByteArrayOutputStream;
import java.io.IOException;
import java.io.InputStream;
import java.io.OutputStream;
import java.lang.reflect.Constructor;
import java.lang.reflect.Method;
import java.net.URI;
import java.nio.file.Files;
import java.nio.file.Path;
import java.util.ArrayList;
import java.util.HashMap;
import java.util.List;
import java.util.Map;
import javax.tools.FileObject;
import javax.tools.ForwardingJavaFileManager;
import javax.tools.JavaCompiler;
import javax.tools.JavaFileManager;
import javax.tools.JavaFileObject;
import javax.tools.SimpleJavaFileObject;
import javax.tools.ToolProvider;

/**
 * Whether every edge would fail if its sentence did not hold: the class is compiled with each slip that stands at an
 * edge, and that edge is run against it. A slip whose lines are not in the class (once) must be mended with them.
 */
public final class SlipsTest {
    private static final Path SOURCE = Path.of("src/main/java/ZonedFabric.java");
    private static final JavaCompiler COMPILER = ToolProvider.getSystemJavaCompiler();
    /** What a file manager has read of the library serves all slips of its thread. */
    private static final ThreadLocal<JavaFileManager> LIBRARY =
        ThreadLocal.withInitial(() -> COMPILER.getStandardFileManager(null, null, null));

    private SlipsTest() {
    }

    public static void main(String[] args) throws IOException {
        String source = Files.readString(SOURCE);
        List<String> faults = new ArrayList<>();
        List<Method> edges = EdgesTest.edges();
        edges.removeIf(edge -> args.length > 0 && !EdgesTest.name(edge).matches(args[0]));
        int slips = edges.stream().mapToInt(edge -> edge.getAnnotationsByType(Slip.class).length).sum();
        edges.parallelStream().flatMap(edge -> faultsOf(edge, source).stream()).forEachOrdered(faults::add);
        faults.addAll(needMoreCalls(edges, source));
        for (String fault : faults) {
            System.out.println(fault);
        }
        System.out.println(edges.size() + " edges, " + slips + " slips, " + faults.size() + " faults");
        if (!faults.isEmpty() || slips == 0) {
            System.exit(1);
        }
    }

    /** The edges that fail where the class answers anything, once it has been called 512 times. */
    private static List<String> needMoreCalls(List<Method> edges, String source) {
        String free = source;
        String[][] answers = {{"int", " -77"}, {"long", " -77L"}, {"boolean", " calls % 2 == 0"}, {"void", ""}};
        for (String[] answer : answers) {
            free = free.replaceAll("(    public " + answer[0] + " [a-z]+\\([^)]*\\) \\{)",
                "$1\n        calls++;\n        if (calls > 512) {\n            return" + answer[1] + ";\n        }");
        }
        Map<String, byte[]> classes = compile(free.replace("    private int wires;", "    private int calls;\n    private int wires;"));
        List<String> faults = new ArrayList<>();
        for (Method edge : edges) {
            try {
                if (classes == null || finds(edge, classes)) {
                    faults.add(EdgesTest.name(edge) + " needs more than 512 calls of an object");
                }
            } catch (ReflectiveOperationException thrown) {
                faults.add(EdgesTest.name(edge) + " can't be run: " + thrown);
            }
        }
        return faults;
    }

    private static List<String> faultsOf(Method edge, String source) {
        List<String> faults = new ArrayList<>();
        Slip[] slips = edge.getAnnotationsByType(Slip.class);
        if (slips.length == 0) {
            faults.add(EdgesTest.name(edge) + " has no slip that it must find");
        }
        for (int i = 0; i < slips.length; i++) {
            String fault = faultOf(edge, slips[i], source);
            if (fault != null) {
                faults.add(EdgesTest.name(edge) + ", slip " + (i + 1) + ": " + fault);
            }
        }
        return faults;
    }

    private static String faultOf(Method edge, Slip slip, String source) {
        String changed = source;
        if (slip.from().length != slip.to().length) {
            return "not as many lines to as from";
        }
        for (int i = 0; i < slip.from().length; i++) {
            int at = changed.indexOf(slip.from()[i]);
            if (at < 0 || changed.indexOf(slip.from()[i], at + 1) >= 0) {
                return "the class does not have just once: " + slip.from()[i];
            }
            changed = changed.replace(slip.from()[i], slip.to()[i]);
        }
        try {
            Map<String, byte[]> classes = compile(changed);
            return classes == null ? "it does not compile" : finds(edge, classes) ? null : "it is not found";
        } catch (ReflectiveOperationException thrown) {
            return "it can't be run: " + thrown;
        }
    }

    /** The edge, with all that it uses, is loaded anew beside the changed class. */
    private static boolean finds(Method edge, Map<String, byte[]> classes) throws ReflectiveOperationException {
        Anew loader = new Anew(classes);
        Class<?> dueClass = loader.loadClass("Due");
        Constructor<?> quiet = dueClass.getDeclaredConstructor(boolean.class);
        quiet.setAccessible(true);
        Object due = quiet.newInstance(false);
        Method run = loader.loadClass("EdgesTest").getDeclaredMethod("run", Method.class, dueClass);
        run.setAccessible(true);
        Class<?> part = loader.loadClass(edge.getDeclaringClass().getName());
        run.invoke(null, part.getDeclaredMethod(edge.getName(), dueClass), due);
        Method wrong = dueClass.getDeclaredMethod("wrong");
        wrong.setAccessible(true);
        return (int) wrong.invoke(due) > 0;
    }

    private static Map<String, byte[]> compile(String source) {
        Map<String, ByteArrayOutputStream> written = new HashMap<>();
        JavaFileObject file = new SimpleJavaFileObject(URI.create("string:///ZonedFabric.java"), JavaFileObject.Kind.SOURCE) {
            @Override
            public CharSequence getCharContent(boolean ignore) {
                return source;
            }
        };
        JavaFileManager files = new Kept(LIBRARY.get(), written);
        if (!COMPILER.getTask(null, files, diagnostic -> { }, List.of("-proc:none"), null, List.of(file)).call()) {
            return null;
        }
        Map<String, byte[]> classes = new HashMap<>();
        written.forEach((name, bytes) -> classes.put(name, bytes.toByteArray()));
        return classes;
    }

    /** Classes that are written stay in memory. */
    private static final class Kept extends ForwardingJavaFileManager<JavaFileManager> {
        private final Map<String, ByteArrayOutputStream> written;

        Kept(JavaFileManager files, Map<String, ByteArrayOutputStream> written) {
            super(files);
            this.written = written;
        }

        @Override
        public JavaFileObject getJavaFileForOutput(Location where, String name, JavaFileObject.Kind kind, FileObject near) {
            return new SimpleJavaFileObject(URI.create("mem:///" + name + ".class"), kind) {
                @Override
                public OutputStream openOutputStream() {
                    ByteArrayOutputStream bytes = new ByteArrayOutputStream();
                    written.put(name, bytes);
                    return bytes;
                }
            };
        }
    }

    /** Loads the tests' classes a second time, so that they use the changed class. */
    private static final class Anew extends ClassLoader {
        private final Map<String, byte[]> classes;

        Anew(Map<String, byte[]> classes) {
            super(ClassLoader.getPlatformClassLoader());
            this.classes = classes;
        }

        @Override
        protected Class<?> findClass(String name) throws ClassNotFoundException {
            byte[] bytes = classes.get(name);
            try (InputStream in = SlipsTest.class.getResourceAsStream(name + ".class")) {
                if (bytes == null && in != null) {
                    bytes = in.readAllBytes();
                }
            } catch (IOException thrown) {
                throw new ClassNotFoundException(name, thrown);
            }
            if (bytes == null) {
                throw new ClassNotFoundException(name);
            }
            return defineClass(name, bytes, 0, bytes.length);
        }
    }
}
