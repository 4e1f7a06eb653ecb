import java.io.IOException;
import java.lang.reflect.InvocationTargetException;
import java.lang.reflect.Method;
import java.nio.file.Files;
import java.nio.file.Path;
import java.util.Arrays;
import java.util.Comparator;
import java.util.List;

/**
 * Runs each test that bears a Sentence, and holds the sentences against the document: each test quotes its words,
 * and none of its sentences is left without a test. The document's path comes behind the class's path.
 */
public final class SentencesTest {
    private static final List<Class<?>> GROUPS = List.of(GeneralSentences.class, LatticeSentences.class,
            HeatSentences.class, CoolingSentences.class, PictureSentences.class, FurnaceSentences.class,
            TellSentences.class, DoSentences.class, AskSentences.class, WouldSentences.class);

    private SentencesTest() {
    }

    public static void main(String[] args) throws IOException, IllegalAccessException {
        Path path = Path.of(args[1]);
        boolean isThere = Files.isReadable(path);
        Document document = isThere ? new Document(path) : null;
        int tests = 0;
        for (Class<?> group : GROUPS) {
            Method[] methods = group.getDeclaredMethods();
            Arrays.sort(methods, Comparator.comparing(Method::getName));
            for (Method method : methods) {
                if (method.isAnnotationPresent(Sentence.class)) {
                    run(method, document);
                    tests++;
                }
            }
        }
        if (isThere) {
            document.tellUntested();
        }
        Check.end("SentencesTest, " + tests + " tests" + (isThere ? "" : ", no document to hold them against"));
    }

    private static void run(Method test, Document document) throws IllegalAccessException {
        Sentence sentence = test.getAnnotation(Sentence.class);
        Check.begin(sentence.in() + ": " + sentence.says() + " (" + test.getName() + ")");
        if (document != null) {
            document.quote(sentence);
        }
        try {
            test.invoke(null);
        } catch (InvocationTargetException e) {
            Check.tell("threw " + e.getCause());
        }
    }
}
