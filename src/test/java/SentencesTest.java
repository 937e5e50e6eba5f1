import java.io.IOException;
import java.lang.reflect.InvocationTargetException;
import java.lang.reflect.Method;
import java.nio.file.Files;
import java.nio.file.Path;
import java.util.Arrays;
import java.util.Comparator;
import java.util.Set;
import java.util.TreeSet;

/** Runs the test of each sentence, and sees to it that each sentence of the document has one. */
final class SentencesTest {
    private static final Path DOCUMENT = Path.of("../shared/DOC.md");

    private static final Class<?>[] TESTS = {
        TermsSentences.class, BlocksSentences.class, StacksSentences.class, OrderTextSentences.class,
        UndoSentences.class, QueriesSentences.class, FindingSentences.class,
    };

    /** What begins like this asks for nothing that calls could show; FaceTest shows what the face must be. */
    private static final String[] NOTHING_TO_SHOW = {
        "What it is: Gauge blocks that are wrung", "Terms: All numbers are integers", "Terms: Nominal lengths are in",
        "Exceptions: Ahead of the calls `block`", "Exceptions: Ahead of the calls `wring`",
        "Exceptions: Ahead of the calls `append`", "Exceptions: Ahead of the calls `undo`", "Not promised: ",
    };

    private SentencesTest() {
    }

    public static void main(String[] args) throws ReflectiveOperationException, IOException {
        Set<String> tested = new TreeSet<>();
        for (Class<?> tests : TESTS) {
            Method[] methods = tests.getDeclaredMethods();
            Arrays.sort(methods, Comparator.comparing(Method::getName));
            for (Method method : methods) {
                Sentence sentence = method.getAnnotation(Sentence.class);
                if (sentence != null) {
                    String key = sentence.of() + ": " + sentence.says();
                    Checks.dueTrue("a second test says: " + key, tested.add(key));
                    run(method, key);
                }
            }
        }
        compareWithDocument(tested);
        System.out.println(tested.size() + " sentences");
        Checks.end("SentencesTest");
    }

    private static void run(Method test, String key) throws ReflectiveOperationException {
        int wrong = Checks.wrong();
        try {
            test.invoke(null);
        } catch (InvocationTargetException thrown) {
            Checks.fail(test.getName() + " threw " + thrown.getCause());
        }
        if (Checks.wrong() > wrong) {
            System.out.println("  broken: " + key);
        }
    }

    private static void compareWithDocument(Set<String> tested) throws IOException {
        if (!Files.exists(DOCUMENT)) {
            System.out.println(DOCUMENT + " is not there: the sentences are not compared with it");
            return;
        }
        Set<String> untested = sentences();
        for (String key : tested) {
            Checks.dueTrue("the document doesn't say: " + key, untested.remove(key));
        }
        for (String key : untested) {
            Checks.dueTrue("no test says: " + key, hasNothingToShow(key));
        }
    }

    private static boolean hasNothingToShow(String key) {
        for (String beginning : NOTHING_TO_SHOW) {
            if (key.startsWith(beginning)) {
                return true;
            }
        }
        return false;
    }

    /** Each sentence and each row of the document outside its code, behind its promise's number or its heading. */
    private static Set<String> sentences() throws IOException {
        Set<String> sentences = new TreeSet<>();
        String heading = "";
        boolean isCode = false;
        for (String line : Files.readAllLines(DOCUMENT)) {
            if (line.startsWith("```")) {
                isCode = !isCode;
            } else if (line.startsWith("#")) {
                heading = line.replaceFirst("^#+ (Promise )?", "").replaceFirst(":.*", "");
            } else if (!isCode && !line.isBlank()) {
                String text = line.replaceFirst("^`[^`]*\\)[^`]*`: ", "").replaceFirst("^- ", "");
                for (String sentence : text.split("\\. (?=[A-Z])")) {
                    sentences.add(heading + ": " + sentence.strip().replaceFirst("\\.$", ""));
                }
            }
        }
        return sentences;
    }
}
