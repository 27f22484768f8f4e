import java.util.ArrayList;
import java.util.Arrays;
import java.util.HashMap;
import java.util.List;
import java.util.Map;

/** A sentence of the document, and runs of calls on new desks that hold it. */
final class Sentence {
    /** As the document has them, not as the class under test does: a wrong one there is to be seen here. */
    private static final Map<String, Integer> CONSTANTS = new HashMap<>();

    static {
        CONSTANTS.put("NONE", -1);
        number("DRAFT", "SENT", "COMPLETED", "DECLINED", "VOIDED", "EXPIRED");
        number("WAITING", "OPEN", "SIGNED", "CLOSED");
        number("SENDING", "SIGNING", "SIGNING_FOR", "DECLINING", "VOIDING", "EXPIRING", "REMINDER");
    }

    private final String words;
    /** The calls of this run that were not refused. */
    private final List<String> story = new ArrayList<>();
    private final Desk desk = new Desk();

    private Sentence(String words) {
        this.words = words;
    }

    private static void number(String... names) {
        for (String name : names) {
            CONSTANTS.put(name, Arrays.asList(names).indexOf(name));
        }
    }

    /**
     * A run has a line for each call, with the answer that is due behind it: a number, a set such as 0b101, a constant's
     * name, or throws. and an exception's name. Without an answer it is due not to throw. Behind // stands a remark.
     * Each refused call is due to leave nothing behind.
     */
    static void holds(String words, String... runs) {
        for (String run : runs) {
            Sentence sentence = new Sentence(words);
            run.lines().map(line -> line.replaceFirst("//.*", "").trim()).filter(line -> !line.isEmpty())
                    .forEach(sentence::line);
        }
    }

    /** The same run behind each of some beginnings. */
    static String[] behindEach(String[] beginnings, String run) {
        String[] runs = new String[beginnings.length];
        for (int n = 0; n < runs.length; n++) {
            runs[n] = beginnings[n] + run;
        }
        return runs;
    }

    private void line(String line) {
        int end = line.indexOf(')') + 1;
        String call = line.substring(0, end);
        String due = due(line.substring(end).trim());
        String got = desk.answer(call);
        if (!due.isEmpty()) {
            check(call, got, due);
        } else if (got.startsWith(Desk.THROWS)) {
            check(call, got, "no exception");
        }
        if (due.startsWith(Desk.THROWS)) {
            leavesNothing(call);
        } else {
            story.add(call);
        }
    }

    private void check(String call, String got, String due) {
        Check.due(words + " | " + String.join(" ", story) + " | " + call, got, due);
    }

    private static String due(String word) {
        if (word.startsWith(Desk.THROWS)) {
            return word;
        }
        if (word.contains(".")) {
            return Float.toString(Float.parseFloat(word));
        }
        if (word.startsWith("0b")) {
            return Desk.numberOf(word).toString();
        }
        if (word.isEmpty() || !Character.isLetter(word.charAt(0))) {
            return word;
        }
        return CONSTANTS.get(word).toString();
    }

    private void leavesNothing(String refused) {
        leavesNothing(words + " | " + refused, story, List.of(refused));
    }

    /** A desk that was called so is as one that was not, in all that it tells and in all that becomes of it. */
    static void leavesNothing(String what, List<String> story, List<String> calls) {
        for (List<String> look : Looks.behind(story)) {
            Desk touched = Desk.behind(story);
            calls.forEach(touched::answer);
            Desk untouched = Desk.behind(story);
            for (String question : look) {
                String got = touched.answer(question);
                String due = untouched.answer(question);
                if (!got.equals(due)) {
                    Check.due(what + " leaves a trace | " + String.join(" ", story) + " | " + question, got, due);
                    return;
                }
            }
        }
        Check.due(what + " leaves a trace", false, false);
    }
}
