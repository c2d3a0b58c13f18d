import java.io.IOException;
import java.lang.reflect.InvocationTargetException;
import java.lang.reflect.Method;
import java.nio.file.Files;
import java.nio.file.Path;
import java.util.ArrayList;
import java.util.Arrays;
import java.util.Comparator;
import java.util.List;

/**
 * Every edge that a sentence of DOC.md names, each by a test of its own; and whether these tests and what
 * Unbounded lists are all of the document's words.
 */
public final class EdgesTest {
    static final Class<?>[] EDGES = {ThingsEdges.class, FrameEdges.class, WireEdges.class, TickEdges.class, RecordEdges.class, WayEdges.class, LoginEdges.class, NodeEdges.class, HostEdges.class, DiscEdges.class, ZoneEdges.class,
        CallEdges.class, AskEdges.class};
    private static final Path DOC = Path.of("../shared/DOC.md");

    private EdgesTest() {
    }

    public static void main(String[] args) throws IOException {
        int failed = 0;
        int answers = 0;
        List<Method> edges = edges();
        for (Method edge : edges) {
            Due due = new Due();
            run(edge, due);
            answers += due.asked();
            if (due.wrong() > 0 || due.asked() == 0) {
                failed++;
                System.out.println("  in " + name(edge) + ": " + String.join(" .. ", edge.getAnnotation(Sentence.class).value()));
            }
        }
        int missing = lookAtDocument(edges);
        System.out.println(edges.size() + " edges, " + answers + " answers, " + failed + " edges failed, "
            + missing + " faults in what is quoted");
        if (failed > 0 || missing > 0) {
            System.exit(1);
        }
    }

    static String name(Method edge) {
        return edge.getDeclaringClass().getSimpleName() + "." + edge.getName();
    }

    static List<Method> edges() {
        List<Method> edges = new ArrayList<>();
        for (Class<?> part : EDGES) {
            Method[] methods = part.getDeclaredMethods();
            Arrays.sort(methods, Comparator.comparing(Method::getName));
            for (Method method : methods) {
                if (method.isAnnotationPresent(Sentence.class)) {
                    edges.add(method);
                }
            }
        }
        return edges;
    }

    /** What an edge throws is as wrong as an answer that is not due. */
    static void run(Method edge, Due due) {
        try {
            edge.setAccessible(true);
            edge.invoke(null, due);
        } catch (InvocationTargetException thrown) {
            due.is(name(edge) + " ended with " + thrown.getCause(), 1, 0);
        } catch (IllegalAccessException | IllegalArgumentException thrown) {
            due.is(name(edge) + " can't be run: " + thrown, 1, 0);
        }
    }

    /** The words that promise something: without headings, the face, and the heads of the promises. */
    private static String promises() throws IOException {
        StringBuilder text = new StringBuilder();
        boolean face = false;
        for (String line : Files.readAllLines(DOC)) {
            if (line.startsWith("## Not promised")) {
                break;
            }
            face = line.startsWith("```java") || face && !line.equals("```");
            if (!face && !line.startsWith("#") && !line.startsWith("```")) {
                text.append(line.replaceAll("`[^`]*`: ", "")).append(' ');
            }
        }
        return plain(text.toString());
    }

    private static String plain(String text) {
        return text.replaceAll("\\s+", " ").trim();
    }

    private static int lookAtDocument(List<Method> edges) throws IOException {
        String text = promises();
        boolean[] quoted = new boolean[text.length()];
        int faults = 0;
        for (Method edge : edges) {
            for (String sentence : edge.getAnnotation(Sentence.class).value()) {
                faults += quote(text, quoted, sentence, name(edge));
            }
        }
        for (String words : Unbounded.WORDS) {
            faults += quote(text, quoted, words, "Unbounded");
        }
        int from = -1;
        for (int i = 0; i <= text.length(); i++) {
            boolean open = i < text.length() && !quoted[i];
            if (open && from < 0) {
                from = i;
            } else if (!open && from >= 0) {
                if (text.substring(from, i).matches(".*[A-Za-z0-9].*")) {
                    faults++;
                    System.out.println("no edge quotes: " + text.substring(from, i));
                }
                from = -1;
            }
        }
        return faults;
    }

    private static int quote(String text, boolean[] quoted, String sentence, String who) {
        String words = plain(sentence);
        int at = text.indexOf(words);
        if (at < 0 || text.indexOf(words, at + 1) >= 0) {
            System.out.println(who + " quotes what is not in DOC.md just once: " + words);
            return 1;
        }
        Arrays.fill(quoted, at, at + words.length(), true);
        return 0;
    }
}
