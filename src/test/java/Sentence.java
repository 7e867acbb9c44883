import java.util.HashSet;
import java.util.Set;

/** The sentences of the document that SentenceTest asks for, each by its words. */
final class Sentence {
    /** The promise that stands for the sections Terms and Operations, which belong to all. */
    static final int TERMS = 0;
    static final int PROMISES = 47;

    private static final Set<Integer> told = new HashSet<>();
    private static String latest = "";
    private static int answers = 0;
    private static int many = 0;

    private Sentence() {
    }

    /** Begins what is asked for a sentence; what was begun ahead of it must have asked for something. */
    static void of(int promise, String words) {
        close();
        many++;
        told.add(promise);
        latest = promise == TERMS ? "Terms, Operations: " + words : "Promise " + promise + ": " + words;
        answers = Due.asked();
        Due.says(latest);
    }

    private static void close() {
        if (many > 0) {
            Due.yes("something is asked for it", Due.asked() > answers);
        }
    }

    /** Ends the test: no promise goes without a sentence. */
    static void end() {
        close();
        Due.says("all promises");
        for (int promise = TERMS; promise <= PROMISES; promise++) {
            Due.yes("there is a sentence of promise " + promise, told.contains(promise));
        }
        System.out.println(many + " sentences");
        Due.end();
    }
}
