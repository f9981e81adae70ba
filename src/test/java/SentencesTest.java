import java.lang.reflect.Method;
import java.nio.file.Path;

/**
 * The document sentence by sentence: each test says of which words it is, these must stand in the
 * document, and no word from "Terms" to the last promise may be left over.
 */
public final class SentencesTest {
    private static final Class<?>[] TESTS = {
        TermsEdges.class, LanguageEdges.class, QuestionEdges.class, TellingEdges.class, AskingEdges.class,
    };

    public static void main(String[] args) throws Exception {
        Document document = new Document(Path.of("../shared/DOC.md"));
        Due due = new Due();
        int tests = 0;
        for (Class<?> c : TESTS) {
            for (Method m : c.getDeclaredMethods()) {
                Says says = m.getAnnotation(Says.class);
                if (says != null) {
                    due.sentence(says.at() + ": " + says.value() + " [" + c.getSimpleName() + "." + m.getName() + "]");
                    due.is("how often it stands there", document.quote(says.at(), says.value()), 1);
                    int asked = due.asked();
                    m.invoke(null, due);
                    due.is("whether anything was asked", due.asked() > asked, true);
                    tests++;
                }
            }
        }
        due.sentence("the document");
        due.is("promises", document.promises(), 55);
        for (String word : document.unquoted()) {
            due.is("tests of <" + word + ">", 0, 1);
        }
        System.out.println(tests + " tests of sentences");
        due.close();
    }
}
