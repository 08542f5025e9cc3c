import java.util.Set;
import java.util.TreeSet;

/** Counts the answers that are not the ones that are due. */
final class Check {
    private static int wrong = 0;
    private static int checked = 0;
    private static final Set<String> SENTENCES = new TreeSet<>();
    private static String sentence = "";

    private Check() {
    }

    /** What is checked from here on stands for this sentence of the document. */
    static void sentence(String words) {
        SENTENCES.add(words);
        sentence = words;
    }

    static void due(String call, long got, long want) {
        checked++;
        if (got != want) {
            wrong++;
            String where = sentence.isEmpty() ? "" : "[" + sentence + "] ";
            System.out.println(where + call + " answered " + got + ", due is " + want);
        }
    }

    static void holds(String what, boolean truth) {
        due(what, truth ? 1 : 0, 1);
    }

    static void finish() {
        String of = SENTENCES.isEmpty() ? "" : " of " + SENTENCES.size() + " sentences";
        System.out.println(checked + " checked" + of + ", " + wrong + " wrong");
        if (wrong != 0 || checked == 0) {
            System.exit(1);
        }
    }
}
