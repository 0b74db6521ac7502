import java.lang.reflect.Method;
import java.nio.file.Files;
import java.nio.file.Path;
import java.util.ArrayList;
import java.util.List;

/**
 * By hand: whether each sentence that is tested stands in the document (its path is the argument),
 * and what of the document no test names.
 */
public final class SaidInDocument {
    private SaidInDocument() {
    }

    public static void main(String[] args) throws Exception {
        String document = Files.readString(Path.of(args[0])).replaceAll("\\s+", " ");
        StringBuilder left = new StringBuilder(document);
        int wrong = 0;
        for (Class<?> tests : Sentences.ALL) {
            for (Method m : Sentences.of(tests)) {
                Says says = m.getAnnotation(Says.class);
                String where = says.promise() == 0 ? document : section(document, says.promise());
                if (!where.contains(says.value())) {
                    wrong++;
                    System.out.println("not there: " + m.getName() + ": " + says.value());
                }
                int at = says.promise() == 0 ? document.indexOf(says.value()) : document.indexOf(says.value(), document.indexOf(where));
                for (int i = at; i >= 0 && i < at + says.value().length(); i++) {
                    left.setCharAt(i, '~');
                }
            }
        }
        List<String> parts = new ArrayList<>();
        for (String part : left.substring(left.indexOf("## Terms")).split("~+")) {
            if (part.length() > 3) {
                parts.add(part.trim());
            }
        }
        System.out.println("named by no test:\n  " + String.join("\n  ", parts));
        System.out.println(wrong + " sentences are not in the document");
    }

    private static String section(String document, int promise) {
        int from = document.indexOf("## Promise " + promise + ":");
        int to = document.indexOf("## ", from + 5);
        return from < 0 ? "" : document.substring(from, to < 0 ? document.length() : to);
    }
}
