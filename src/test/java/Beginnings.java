/** Beginnings of runs that more than one test has. */
final class Beginnings {
    /** Envelope 0 with the slots 0 and 1 of person 1, both without any before. */
    static final String DRAFT = """
            draft() 0
            addSlot(0, 1, 0) 0
            addSlot(0, 1, 0) 1
            """;
    static final String SENT = DRAFT + "send(0) 2\n";
    static final String COMPLETED = SENT + """
            sign(1, 0, 0) 0
            sign(1, 0, 1) 0
            """;
    static final String DECLINED = SENT + "decline(1, 0, 0) 2\n";
    static final String VOIDED = SENT + "cancel(0) 2\n";
    static final String EXPIRED = DRAFT + """
            setTimes(0, 0, 1)
            send(0) 2
            pass(1) 0
            """;

    static final String[] ENDED = {COMPLETED, DECLINED, VOIDED, EXPIRED};
    static final String[] NO_DRAFT = {SENT, COMPLETED, DECLINED, VOIDED, EXPIRED};
    static final String[] NOT_SENT = {DRAFT, COMPLETED, DECLINED, VOIDED, EXPIRED};
    static final String[] EACH_STATE = {DRAFT, SENT, COMPLETED, DECLINED, VOIDED, EXPIRED};

    /**
     * A sent envelope 0 with five slots of person 1: 0 and 1 and 4 without any before, 2 behind 0 and 1, 3 behind 0.
     */
    static final String FIVE = """
            draft() 0
            addSlot(0, 1, 0) 0
            addSlot(0, 1, 0) 1
            addSlot(0, 1, 0b11) 2
            addSlot(0, 1, 0b1) 3
            addSlot(0, 1, 0) 4
            send(0) 3
            """;

    private Beginnings() {
    }

    /** Another draft with slots of one person, none before another. */
    static String draft(int envelope, int person, int slots) {
        StringBuilder run = new StringBuilder("draft() " + envelope + "\n");
        for (int s = 0; s < slots; s++) {
            run.append("addSlot(" + envelope + ", " + person + ", 0) " + s + "\n");
        }
        return run.toString();
    }

    static String sent(int envelope, int person, int slots) {
        return draft(envelope, person, slots) + "send(" + envelope + ") " + slots + "\n";
    }

    /** An envelope 0 with one slot of person 0, sent on the day 0. */
    static String timed(int pace, int term) {
        return draft(0, 0, 1) + "setTimes(0, " + pace + ", " + term + ")\nsend(0) 1\n";
    }
}
