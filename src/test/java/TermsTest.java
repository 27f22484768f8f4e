import java.util.List;

/** What the document tells under Terms of people, delegates and exceptions, and that to ask changes nothing. */
public final class TermsTest {
    /** A desk with something of everything: each state, a delegate at work, and one for later. */
    private static final String BUSY = Beginnings.FIVE.replace("send", "setTimes(0, 2, 20)\nsend")
            + Beginnings.draft(1, 2, 2) + "setTimes(1, 3, 4)\n"
            + Beginnings.sent(2, 3, 1) + "sign(3, 2, 0) 0\n" + Beginnings.sent(3, 4, 2) + "decline(4, 3, 0) 2\n"
            + Beginnings.sent(4, 5, 1) + "cancel(4) 1\n" + """
            pass(4) 6
            delegate(1, 6, 4, 5, 2) NONE
            delegate(2, 7, 6, 7, 9) NONE
            sign(6, 0, 0) 1
            """;

    public static void main(String[] args) {
        people();
        envelopesAndSlots();
        delegateDays();
        delegateLimit();
        delegateIsReplaced();
        delegateCountStays();
        exceptionsChangeNothing();
        askingChangesNothing();
        mostCalls();
        Check.end();
    }

    private static void people() {
        for (int p = 0; p < 8; p++) {
            Sentence.holds("Terms: There are 8 people, 0 to 7", """
                    draft() 0
                    addSlot(0, %1$d, 0) 0
                    addSlot(0, %1$d, 0) 1
                    addSlot(0, %1$d, 0) 2
                    send(0) 3
                    whyNot(%1$d, 0, 0) 0
                    toSign(%1$d) 3
                    delegate(%1$d, %2$d, 0, 0, 1) NONE
                    delegateToday(%1$d) %2$d
                    sign(%2$d, 0, 1) 0
                    signedFor(%1$d) 1
                    sign(%1$d, 0, 0) 0
                    personOf(0, 1) %2$d
                    personOf(0, 2) %1$d
                    decline(%1$d, 0, 2) 1
                    revoke(%1$d) %2$d
                    """.formatted(p, 7 - p));
        }
    }

    private static void envelopesAndSlots() {
        for (int e = 0; e < 6; e++) {
            Sentence.holds("Envelopes: at most 6 envelopes, each as the first one", "draft()\n".repeat(6) + """
                    addSlot(%1$d, 0, 0) 0
                    addRound(%1$d, 0b10) 2
                    setTimes(%1$d, 1, 2)
                    send(%1$d) 1
                    sign(0, %1$d, 0) 1
                    whyNot(1, %1$d, 1) 0
                    nextReminder(%1$d) 1
                    pass(2) 1
                    state(%1$d) EXPIRED
                    slots(%1$d) 2
                    slotState(%1$d, 1) CLOSED
                    missing(%1$d, 1) 0
                    share(%1$d) 0.5
                    ahead(%1$d, 1) 1
                    roundOf(%1$d, 1) 1
                    orders(%1$d) 1
                    ordersByAll(%1$d) 1
                    ordersLeft(%1$d) 1
                    events(%1$d) 4
                    kindOf(%1$d, 3) EXPIRING
                    personOf(%1$d, 2) 1
                    dayOf(%1$d, 3) 2
                    stateBehind(%1$d, 3) SENT
                    openBehind(%1$d, 3) 0b10
                    cancel(%1$d) throws.IllegalStateException
                    """.formatted(e));
        }
        for (int s = 0; s < 8; s++) {
            Sentence.holds("Envelopes: at most 8 slots, each as the first one", """
                    draft() 0
                    addRound(0, 255) 8
                    setTimes(0, 1, 0)
                    send(0) 8
                    pass(1) 8
                    whyNot(%1$d, 0, %1$d) 0
                    slotState(0, %1$d) OPEN
                    missing(0, %1$d) 0
                    ahead(0, %1$d) 0
                    roundOf(0, %1$d) 0
                    personOf(0, 1) 0
                    sign(%1$d, 0, %1$d) 0
                    slotState(0, %1$d) SIGNED
                    openBehind(0, 9) 255
                    openBehind(0, 10) %2$d
                    """.formatted(s, 255 - (1 << s)));
        }
    }

    private static void delegateDays() {
        Sentence.holds("Delegates: who may sign on some days, from a first one to a last one", Beginnings.FIVE + """
                delegate(1, 3, 2, 3, 9) NONE
                pass(1) 0
                sign(3, 0, 0) throws.IllegalStateException
                pass(1) 0
                sign(3, 0, 0) 1
                pass(1) 0
                sign(3, 0, 1) 1
                pass(1) 0
                sign(3, 0, 2) throws.IllegalStateException
                sign(1, 0, 2) 0
                """);
        Sentence.holds("Delegates: on one day", Beginnings.FIVE + """
                delegate(1, 3, 0, 0, 9) NONE
                sign(3, 0, 0) 1
                pass(1) 0
                sign(3, 0, 1) throws.IllegalStateException
                """);
    }

    private static void delegateLimit() {
        Sentence.holds("Delegates: so many slots a day at most", Beginnings.sent(0, 1, 8) + """
                delegate(1, 3, 0, 2, 2) NONE
                sign(3, 0, 0) 0
                sign(3, 0, 1) 0
                sign(3, 0, 2) throws.IllegalStateException
                sign(3, 0, 2) throws.IllegalStateException
                signedFor(1) 2
                pass(1) 0
                sign(3, 0, 2) 0
                sign(3, 0, 3) 0
                sign(3, 0, 4) throws.IllegalStateException
                pass(1) 0
                sign(3, 0, 4) 0
                """);
        for (int limit = 1; limit <= 9; limit++) {
            StringBuilder run = new StringBuilder(Beginnings.sent(0, 1, 8) + Beginnings.sent(1, 1, 2));
            run.append("delegate(1, 0, 0, 0, " + limit + ") NONE\n");
            for (int n = 0; n < limit; n++) {
                run.append("sign(0, " + n / 8 + ", " + n % 8 + ") 0\n");
            }
            run.append("signedFor(1) " + limit + "\n");
            run.append("sign(0, " + limit / 8 + ", " + limit % 8 + ") throws.IllegalStateException\n");
            Sentence.holds("Delegates: each limit from 1 to 9", run.toString());
        }
        Sentence.holds("Delegates: a delegate of two people has the limit of each", Beginnings.sent(0, 1, 2) + Beginnings.sent(1, 2, 2) + """
                delegate(1, 3, 0, 0, 1) NONE
                delegate(2, 3, 0, 0, 1) NONE
                sign(3, 0, 0) 0
                sign(3, 1, 0) 0
                sign(3, 0, 1) throws.IllegalStateException
                sign(3, 1, 1) throws.IllegalStateException
                """);
    }

    private static void delegateIsReplaced() {
        Sentence.holds("Delegates: Whenever the delegate of a person is set, it replaces the one before", Beginnings.FIVE + """
                delegate(1, 2, 0, 9, 9) NONE
                delegate(1, 3, 0, 9, 9) 2
                sign(2, 0, 0) throws.IllegalStateException
                sign(3, 0, 0) 1
                """);
        Sentence.holds("Delegates: also by one for other days", Beginnings.FIVE + """
                delegate(1, 2, 0, 9, 9) NONE
                delegate(1, 3, 1, 9, 9) 2
                sign(2, 0, 0) throws.IllegalStateException
                sign(3, 0, 0) throws.IllegalStateException
                delegateToday(1) NONE
                pass(1) 0
                sign(2, 0, 0) throws.IllegalStateException
                sign(3, 0, 0) 1
                """);
        Sentence.holds("Delegates: also the days and the limit of the same one", Beginnings.FIVE + """
                delegate(1, 2, 0, 9, 1) NONE
                delegate(1, 2, 0, 0, 2) 2
                sign(2, 0, 0) 1
                sign(2, 0, 1) 1
                sign(2, 0, 2) throws.IllegalStateException
                pass(1) 0
                sign(2, 0, 2) throws.IllegalStateException
                delegateToday(1) NONE
                """);
    }

    private static void delegateCountStays() {
        Sentence.holds("Delegates: slots that were signed in the place of the person on the same day count as before", Beginnings.FIVE + """
                delegate(1, 2, 0, 9, 1) NONE
                sign(2, 0, 0) 1
                delegate(1, 3, 0, 9, 1) 2
                sign(3, 0, 1) throws.IllegalStateException
                signedFor(1) 1
                pass(1) 0
                sign(3, 0, 1) 1
                """);
        Sentence.holds("Delegates: also when the same one is set again, or another limit", Beginnings.FIVE + """
                delegate(1, 2, 0, 9, 1) NONE
                sign(2, 0, 0) 1
                delegate(1, 2, 0, 9, 1) 2
                sign(2, 0, 1) throws.IllegalStateException
                delegate(1, 2, 0, 9, 2) 2
                sign(2, 0, 1) 1
                sign(2, 0, 2) throws.IllegalStateException
                """);
        Sentence.holds("Delegates: also behind revoke", Beginnings.FIVE + """
                delegate(1, 2, 0, 9, 1) NONE
                sign(2, 0, 0) 1
                revoke(1) 2
                delegate(1, 3, 0, 9, 1) NONE
                sign(3, 0, 1) throws.IllegalStateException
                """);
        Sentence.holds("Delegates: so many slots a day at most, though more were signed than a new one may", Beginnings.FIVE + """
                delegate(1, 2, 0, 9, 3) NONE
                sign(2, 0, 0) 1
                sign(2, 0, 1) 1
                delegate(1, 3, 0, 9, 1) 2
                sign(3, 0, 2) throws.IllegalStateException
                toSign(3) 0
                signedFor(1) 2
                sign(1, 0, 4) 0          // the person itself may
                pass(1) 0
                toSign(3) 2
                sign(3, 0, 2) 0
                toSign(3) 0
                """);
    }

    /** A call of each method that can throw, on a desk that has much to lose. */
    private static void exceptionsChangeNothing() {
        String[] refused = {
            "addSlot(0, 1, 0) S", "addSlot(1, 8, 0) X", "addSlot(1, 1, 4) A", "addRound(0, 1) S", "addRound(1, 256) A",
            "addRound(1, 255) S", "addRound(7, 1) X", "setTimes(0, 5, 5) S", "setTimes(1, 31, 5) A", "setTimes(1, 5, 61) A",
            "setTimes(8, 5, 5) X", "send(0) S", "send(2) S", "send(9) X", "sign(6, 0, 2) S", "sign(7, 0, 1) S", "sign(2, 1, 0) S",
            "sign(1, 0, 5) X", "sign(8, 0, 1) X", "sign(1, 9, 1) X", "whyNot(8, 0, 0) X", "decline(6, 0, 1) S", "decline(1, 0, 2) S",
            "decline(3, 2, 0) S", "decline(1, 0, 8) X", "cancel(1) S", "cancel(2) S", "cancel(3) S", "cancel(4) S", "cancel(-1) X",
            "delegate(1, 1, 4, 4, 1) A", "delegate(1, 2, 3, 4, 1) A", "delegate(1, 2, 5, 4, 1) A", "delegate(1, 2, 4, 4, 0) A",
            "delegate(1, 2, 4, 4, 10) A", "delegate(1, 8, 4, 4, 1) X", "delegate(8, 1, 4, 4, 1) X", "revoke(0) S", "revoke(8) X",
            "pass(0) A", "pass(61) A", "nextReminder(9) X", "seal(0, 11) X", "kindOf(0, 10) X", "openBehind(0, -1) X",
        };
        for (String line : refused) {
            String name = switch (line.charAt(line.length() - 1)) {
                case 'X' -> "IndexOutOfBoundsException";
                case 'A' -> "IllegalArgumentException";
                default -> "IllegalStateException";
            };
            Sentence.holds("Exceptions: A call that throws changes nothing",
                    BUSY + line.substring(0, line.length() - 1) + Desk.THROWS + name);
        }
        Sentence.holds("Exceptions: A call that throws changes nothing", BUSY + """
                draft() 5
                draft() throws.IllegalStateException
                """);
    }

    private static void askingChangesNothing() {
        List<String> story = BUSY.lines().map(line -> line.substring(0, line.indexOf(')') + 1)).toList();
        List<String> questions = Looks.questionsBehind(story);
        // In parts, so that there is room for as many calls behind them.
        int part = 100;
        for (int from = 0; from < questions.size(); from += part) {
            Sentence.leavesNothing("asking", story, questions.subList(from, Math.min(questions.size(), from + part)));
        }
    }

    private static void mostCalls() {
        Sentence.holds("An object is used for at most 512 calls", Beginnings.SENT + "nextReminder(0) NONE\n".repeat(506)
                + "sign(1, 0, 0) 0\nsign(1, 0, 1) 0\n");
    }
}
