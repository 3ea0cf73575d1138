import java.io.IOException;
import java.nio.file.Files;
import java.nio.file.Path;
import java.util.List;
import java.util.function.Supplier;
import java.util.function.ToLongFunction;

/**
 * Checks told sentence by sentence: each stands under a sentence of ../shared/DOC.md, quoted as it is
 * there, and the number of the promise that it belongs to.
 */
final class Edges {
    private static final int PROMISES = 30;
    private static final Path DOCUMENT = Path.of("../shared/DOC.md");

    private final Checks checks = new Checks();
    private final int[] sentencesOf = new int[PROMISES + 1];
    private final String document;
    /** The document's signs that some test quotes. */
    private final boolean[] quoted;
    private int promise;
    private String sentence;
    private int asked = 1;

    Edges() throws IOException {
        document = oneBlanked(Files.exists(DOCUMENT) ? Files.readString(DOCUMENT) : "");
        quoted = new boolean[document.length()];
    }

    private static String oneBlanked(String text) {
        return text.replaceAll("\\s+", " ");
    }

    /** The checks up to the next sentence are of this one. */
    void says(int promise, String sentence) {
        closeSentence();
        this.promise = promise;
        this.sentence = sentence;
        asked = 0;
        sentencesOf[promise]++;
        int at = document.indexOf(oneBlanked(sentence));
        checks.due(where() + "stands in the document", at >= 0 || document.isEmpty(), true);
        for (int i = at; at >= 0 && i < at + oneBlanked(sentence).length(); i++) {
            quoted[i] = true;
        }
    }

    private void closeSentence() {
        checks.due(where() + "has a test", asked > 0, true);
    }

    private String where() {
        return "promise " + promise + ", \"" + sentence + "\": ";
    }

    void due(String call, long got, long want) {
        asked++;
        checks.due(where() + call, got, want);
    }

    void due(String call, boolean got, boolean want) {
        due(call, got ? 1 : 0, want ? 1 : 0);
    }

    void same(String call, List<String> got, List<String> want) {
        asked++;
        for (int i = 0; i < Math.max(got.size(), want.size()); i++) {
            String one = i < got.size() ? got.get(i) : "(none)";
            String other = i < want.size() ? want.get(i) : "(none)";
            if (!one.equals(other)) {
                checks.due(where() + call + ": " + one + ", due is " + other, false, true);
                return;
            }
        }
        checks.due(where() + call, true, true);
    }

    /** A call on an object in which much was told and done; all is as if it had not been asked. */
    void leavesAll(String name, ToLongFunction<GraveRails> call, long want) {
        leavesAll(name, Scene::rich, call, want);
    }

    void leavesAll(String name, Supplier<GraveRails> scene, ToLongFunction<GraveRails> call, long want) {
        GraveRails x = scene.get();
        due(name, call.applyAsLong(x), want);
        same(name + " leaves all as it is", Scene.traceOf(x), Scene.traceOf(scene.get()));
    }

    /** To be called last: ends the program with 1 if an answer was wrong, or a promise has no sentence. */
    void close(String name, boolean tellsRest) {
        closeSentence();
        for (int i = 1; i <= PROMISES; i++) {
            checks.due("promise " + i + " has sentences", sentencesOf[i] > 0, true);
        }
        if (tellsRest) {
            System.out.println(rest());
        }
        checks.close(name);
    }

    /** The document with what is quoted left out: for whoever looks for sentences without a test. */
    private String rest() {
        StringBuilder s = new StringBuilder();
        for (int i = 0; i < quoted.length; i++) {
            if (!quoted[i]) {
                s.append(document.charAt(i));
            } else if (i > 0 && !quoted[i - 1]) {
                s.append(" # ");
            }
        }
        return s.toString();
    }
}
