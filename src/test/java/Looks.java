import java.util.ArrayList;
import java.util.List;

/** The calls that together tell all that a desk holds behind a story, and what would become of it. */
final class Looks {
    private static final int PEOPLE = 8;
    private static final int MOST_SLOTS = 8;
    private static final int MOST_EVENTS = 49;

    private final List<String> story;
    private final Desk scout;
    private final int envelopes;

    private Looks(List<String> story) {
        this.story = story;
        scout = Desk.behind(story);
        envelopes = scout.number("envelopes()");
    }

    /** Lists of calls, each for a desk of its own that has been told the story. */
    static List<List<String>> behind(List<String> story) {
        Looks looks = new Looks(story);
        // One call is left for the one whose traces are looked for.
        int room = Desk.MOST_CALLS - story.size() - 1;
        List<List<String>> all = new ArrayList<>();
        List<String> questions = looks.questions();
        for (int from = 0; from < questions.size(); from += room) {
            all.add(questions.subList(from, Math.min(questions.size(), from + room)));
        }
        all.addAll(looks.trials());
        return all;
    }

    static List<String> questionsBehind(List<String> story) {
        return new Looks(story).questions();
    }

    /** Calls that change nothing, each number up to the first that is not there. */
    private List<String> questions() {
        List<String> calls = new ArrayList<>(List.of("today()", "envelopes()"));
        for (int p = 0; p <= PEOPLE; p++) {
            ask(calls, "(" + p + ")", "delegateToday", "signedFor", "toSign");
        }
        for (int e = 0; e <= envelopes; e++) {
            ask(calls, "(" + e + ")", "state", "slots", "share", "nextReminder", "orders", "ordersByAll", "ordersLeft", "events");
            Desk desk = Desk.behind(story);
            for (int s = 0; e < envelopes && s <= desk.number("slots(" + e + ")"); s++) {
                askSlot(calls, e, s);
            }
            for (int v = 0; e < envelopes && v <= desk.number("events(" + e + ")"); v++) {
                ask(calls, "(" + e + ", " + v + ")", "kindOf", "personOf", "dayOf", "seal", "stateBehind", "openBehind");
            }
        }
        return calls;
    }

    private static void askSlot(List<String> calls, int e, int s) {
        ask(calls, "(" + e + ", " + s + ")", "slotState", "missing", "ahead", "roundOf");
        for (int p = 0; p < PEOPLE; p++) {
            calls.add("whyNot(" + p + ", " + e + ", " + s + ")");
        }
    }

    private static void ask(List<String> calls, String arguments, String... names) {
        for (String name : names) {
            calls.add(name + arguments);
        }
    }

    /** What no question tells: paces and terms, persons of waiting slots, delegates of other days and their limits. */
    private List<List<String>> trials() {
        List<List<String>> all = new ArrayList<>();
        for (int e = 0; e < envelopes; e++) {
            all.add(days(e));
            all.add(signings(e));
        }
        all.add(delegates());
        for (int p = 0; p < PEOPLE; p++) {
            if (!scout.answer("revoke(" + p + ")").startsWith(Desk.THROWS)) {
                all.add(limit(p));
            }
        }
        return all;
    }

    /** Long enough for five reminders at the slowest pace. */
    private static List<String> days(int e) {
        List<String> calls = new ArrayList<>(List.of("addSlot(" + e + ", 0, 0)", "send(" + e + ")"));
        calls.addAll(List.of("pass(60)", "pass(60)", "pass(60)"));
        for (int v = 0; v <= MOST_EVENTS; v++) {
            calls.add("seal(" + e + ", " + v + ")");
        }
        return calls;
    }

    private static List<String> signings(int e) {
        List<String> calls = new ArrayList<>(List.of("send(" + e + ")"));
        for (int s = 0; s < MOST_SLOTS; s++) {
            for (int p = 0; p < PEOPLE; p++) {
                calls.add("whyNot(" + p + ", " + e + ", " + s + ")");
                calls.add("sign(" + p + ", " + e + ", " + s + ")");
            }
        }
        return calls;
    }

    private static List<String> delegates() {
        List<String> calls = new ArrayList<>();
        for (int day = 0; day < 12; day++) {
            for (int p = 0; p < PEOPLE; p++) {
                calls.add("delegateToday(" + p + ")");
            }
            calls.add("pass(1)");
        }
        for (int p = 0; p < PEOPLE; p++) {
            calls.add("revoke(" + p + ")");
        }
        return calls;
    }

    /** More slots than a limit can be, and three days to try them on. */
    private List<String> limit(int person) {
        List<String> calls = new ArrayList<>();
        for (int e = envelopes; e < envelopes + 2; e++) {
            calls.add("draft()");
            for (int s = 0; s < 5; s++) {
                calls.add("addSlot(" + e + ", " + person + ", 0)");
            }
            calls.add("send(" + e + ")");
        }
        for (int day = 0; day < 3; day++) {
            for (int n = 0; n < 10; n++) {
                for (int p = 0; p < PEOPLE; p++) {
                    if (p != person) {
                        calls.add("sign(" + p + ", " + (envelopes + n / 5) + ", " + n % 5 + ")");
                    }
                }
            }
            calls.add("pass(1)");
        }
        return calls;
    }
}
