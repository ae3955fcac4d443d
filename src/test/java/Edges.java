import java.util.Arrays;
import java.util.HashMap;
import java.util.List;
import java.util.Map;
import java.util.function.Consumer;

/**
 * Tests of the document's edges. Each is a run of calls on a new object and names the promise and the sentence that it
 * holds to; a sentence that the document does not have there is a fault of the test. Of each call that throws it is
 * looked, too, whether it leaves the state as it was.
 */
final class Edges {
    private final Check check = new Check();
    private final Document document = new Document();
    /** Of each sentence, behind what it stands under, the signs that a test has named. */
    private final Map<String, boolean[]> named = new HashMap<>();

    /** One test: the heading, the words of the sentence, which of its edges, and the run. */
    void edge(String heading, String sentence, String which, String run) {
        String name = heading + " \"" + sentence + "\", " + which;
        List<String> found = document.sentencesWith(heading, sentence);
        check.same(name + ": the document has the sentence", false, found.isEmpty());
        for (String whole : found) {
            boolean[] signs = named.computeIfAbsent(heading + whole, key -> new boolean[whole.length()]);
            Arrays.fill(signs, whole.indexOf(sentence), whole.indexOf(sentence) + sentence.length(), true);
        }
        List<Step> steps = Step.of(run);
        GluedWall wall = new GluedWall();
        for (int at = 0; at < steps.size(); at++) {
            Step step = steps.get(at);
            String got = step.answer(wall);
            if (step.due.equals(Step.FREE)) {
                check.same(name + ": " + step.shown + " throws nothing", false, got.endsWith("Exception"));
            } else {
                check.same(name + ": " + step.shown, step.due, got);
            }
            if (step.throwsOne()) {
                leavesTheState(name + ": " + step.shown, steps, at);
            }
        }
    }

    /** Every sentence under these headings has been named, word for word. */
    void end(String... headings) {
        for (String heading : headings) {
            for (String sentence : document.sentencesOf(heading)) {
                check.same(heading + " \"" + sentence + "\" has no edge for", "", unnamed(heading, sentence));
            }
        }
        check.end();
    }

    /** The words of a sentence that no test has named, but for the exception or the parameter that it begins with. */
    private String unnamed(String heading, String sentence) {
        boolean[] signs = named.getOrDefault(heading + sentence, new boolean[sentence.length()]);
        StringBuilder rest = new StringBuilder();
        for (int at = 0; at < signs.length; at++) {
            rest.append(signs[at] ? ' ' : sentence.charAt(at));
        }
        return rest.toString().replaceFirst("^Throws `\\w+` |^- `\\w+`: ", "").replaceAll("\\W+", " ").strip();
    }

    /** Commands empty the buffer and tell a fault position, a refusal a reason: those are told by the run itself. */
    private void leavesTheState(String name, List<Step> steps, int at) {
        Step step = steps.get(at);
        boolean isText = step.isOf("commands");
        boolean isReason = step.due.equals(Check.REFUSED);
        String before = Picture.of(runOf(steps, at), !isText, !isReason);
        String after = Picture.of(runOf(steps, at + 1), !isText, !isReason);
        check.same(name + " leaves the state", "", Picture.lost(before, after));
    }

    private static Consumer<GluedWall> runOf(List<Step> steps, int count) {
        return wall -> {
            for (int at = 0; at < count; at++) {
                steps.get(at).answer(wall);
            }
        };
    }
}
