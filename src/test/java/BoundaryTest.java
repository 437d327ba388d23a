import java.io.IOException;
import java.lang.reflect.InvocationTargetException;
import java.lang.reflect.Method;
import java.nio.file.Files;
import java.nio.file.Path;
import java.util.Arrays;
import java.util.Comparator;
import java.util.Set;
import java.util.TreeSet;

/**
 * All promises: each sentence of the document that names a boundary case has a method marked with
 * it in one of the classes below, and is a test of its own. With -Ddoc=.. the sentences are also
 * looked up in the document, so that no test can speak of words that don't stand there.
 */
public final class BoundaryTest {
    private static final Class<?>[] EDGES = {TextEdges.class, FaultEdges.class, LawEdges.class, PaneEdges.class,
        NightEdges.class, PlanEdges.class, CostEdges.class, TaleEdges.class, ImageEdges.class};
    private static final int PROMISES = 34;

    private final Check all = new Check();
    private final Set<Integer> promises = new TreeSet<>();
    private final String document;

    private BoundaryTest(String document) {
        this.document = document;
    }

    public static void main(String[] args) throws IOException {
        String doc = System.getProperty("doc");
        BoundaryTest test = new BoundaryTest(doc == null ? null : Files.readString(Path.of(doc)));
        for (Class<?> edges : EDGES) {
            Method[] methods = edges.getDeclaredMethods();
            Arrays.sort(methods, Comparator.comparing(Method::getName));
            for (Method method : methods) {
                if (method.isAnnotationPresent(Sentence.class)) {
                    test.run(method, method.getAnnotation(Sentence.class));
                }
            }
        }
        for (int promise = 1; promise <= PROMISES; promise++) {
            test.all.due("promise " + promise + " has a test", test.promises.contains(promise), true);
        }
        test.all.end();
    }

    private void run(Method method, Sentence sentence) {
        String about = "promise " + sentence.promise() + ", '" + sentence.says() + "'";
        Check own = new Check(about + ": ");
        try {
            method.invoke(null, own);
        } catch (InvocationTargetException e) {
            own.due("threw " + e.getCause(), 1, 0);
        } catch (IllegalAccessException e) {
            own.due("can't be called", 1, 0);
        }
        all.due(about + " (" + method.getName() + ")", own.isRight(), true);
        all.due(about + " stands in the document", document == null || stands(sentence), true);
        promises.add(sentence.promise());
    }

    /** Words of a promise stand in its section, or in the terms that it speaks in. */
    private boolean stands(Sentence sentence) {
        return section("## Terms").contains(sentence.says())
            || section("## Promise " + sentence.promise() + ":").contains(sentence.says());
    }

    private String section(String title) {
        int from = document.indexOf(title);
        int until = document.indexOf("\n## ", from + 1);
        return from < 0 || until < 0 ? "" : document.substring(from, until);
    }
}
