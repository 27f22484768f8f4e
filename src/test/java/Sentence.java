import java.util.ArrayList;
import java.util.List;

/** A sentence of the document, and runs of calls on new desks that hold it. */
final class Sentence {
    private final String words;
    /** The calls of this run that were not refused. */
    private final List<String> story = new ArrayList<>();
    private final Desk desk = new Desk();

    private Sentence(String words) {
        this.words = words;
    }

    /**
     * A run has a line for each call, with the answer that is due behind it: a number, a set such as 0b101, a constant's
     * name, or throws. and an exception's name. Without an answer it is due not to throw. Behind // stands a remark.
     * Each refused call is due to leave nothing behind.
     */
    static void holds(String words, String... runs) {
        for (String run : runs) {
            Sentence sentence = new Sentence(words);
            run.lines().map(line -> line.replaceFirst("//.*", "").trim()).filter(line -> !line.isEmpty())
                    .forEach(sentence::line);
        }
    }

    /** The same run behind each of some beginnings. */
    static String[] behindEach(String[] beginnings, String run) {
        String[] runs = new String[beginnings.length];
        for (int n = 0; n < runs.length; n++) {
            runs[n] = beginnings[n] + run;
        }
        return runs;
    }

    private void line(String line) {
        int end = line.indexOf(')') + 1;
        String call = line.substring(0, end);
        String due = due(line.substring(end).trim());
        String got = desk.answer(call);
        if (!due.isEmpty()) {
            check(call, got, due);
        } else if (got.startsWith(Desk.THROWS)) {
            check(call, got, "no exception");
        }
        if (due.startsWith(Desk.THROWS)) {
            leavesNothing(call);
        } else {
            story.add(call);
        }
    }

    private void check(String call, String got, String due) {
        Check.due(words + " | " + String.join(" ", story) + " | " + call, got, due);
    }

    private static String due(String word) {
        if (word.startsWith(Desk.THROWS)) {
            return word;
        }
        if (word.contains(".")) {
            return Float.toString(Float.parseFloat(word));
        }
        if (word.startsWith("0b")) {
            return Desk.numberOf(word).toString();
        }
        return word.isEmpty() || !Character.isLetter(word.charAt(0)) ? word : constant(word);
    }

    private static String constant(String name) {
        try {
            return Signround.class.getField(name).get(null).toString();
        } catch (ReflectiveOperationException e) {
            throw new IllegalStateException(e);
        }
    }

    private void leavesNothing(String refused) {
        leavesNothing(words + " | " + refused, story, List.of(refused));
    }

    /** A desk that was called so is as one that was not, in all that it tells and in all that becomes of it. */
    static void leavesNothing(String what, List<String> story, List<String> calls) {
        for (List<String> look : Looks.behind(story)) {
            Desk touched = Desk.behind(story);
            calls.forEach(touched::answer);
            Desk untouched = Desk.behind(story);
            for (String question : look) {
                String got = touched.answer(question);
                String due = untouched.answer(question);
                if (!got.equals(due)) {
                    Check.due(what + " leaves a trace | " + String.join(" ", story) + " | " + question, got, due);
                    return;
                }
            }
        }
        Check.due(what + " leaves a trace", false, false);
    }
}
