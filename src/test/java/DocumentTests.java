import java.io.IOException;
import java.lang.reflect.Method;
import java.util.ArrayList;
import java.util.List;

/** Each test names a sentence that stands in the document, and each sentence there is named by a test. */
final class DocumentTests {

    static void allSentencesStandInTheDocument() throws IOException {
        Document document = new Document();
        for (Method test : AllTests.ofSentences()) {
            Says says = test.getAnnotation(Says.class);
            if (!document.says(says.promise(), says.sentence())) {
                Check.fail(AllTests.name(test) + ": no such sentence stands there");
            }
        }
    }

    static void allOfTheDocumentIsNamed() throws IOException {
        Document document = new Document();
        for (int promise = Says.TERMS; promise <= Document.PROMISES; promise++) {
            List<String> named = new ArrayList<>();
            for (Method test : AllTests.ofSentences()) {
                Says says = test.getAnnotation(Says.class);
                if (says.promise() == promise) {
                    named.add(says.sentence());
                }
            }
            String left = document.unnamed(promise, named);
            if (!left.isEmpty()) {
                Check.fail("promise " + promise + ": no test names '" + left + "'");
            }
        }
    }

    private DocumentTests() {
    }
}
