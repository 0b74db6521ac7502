import java.lang.reflect.Method;

/** Whether the terms and each of the 34 promises have a test of a sentence. */
public final class SentencesTest {
    private static final Checker C = new Checker("SentencesTest");

    private SentencesTest() {
    }

    public static void main(String[] args) {
        int[] tests = new int[35];
        for (Class<?> all : Sentences.ALL) {
            for (Method m : Sentences.of(all)) {
                tests[m.getAnnotation(Says.class).promise()]++;
            }
        }
        for (int promise = 0; promise < tests.length; promise++) {
            C.holds("promise " + promise + " has a test of a sentence", tests[promise] > 0);
        }
        C.end();
    }
}
