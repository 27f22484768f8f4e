/** Promises 19 to 24, and what the document tells of envelopes and slots. */
public final class EnvelopesTest {
    public static void main(String[] args) {
        slotsOpen();
        slotsOpenBehindAll();
        lastSlotCompletes();
        endsCloseSlots();
        endsStay();
        timesAtFirst();
        promise19Envelopes();
        promise20State();
        promise21Slots();
        promise22SlotState();
        promise23Missing();
        promise24Share();
        noSuchEnvelope();
        noSuchSlot();
        Check.end();
    }

    private static void slotsOpen() {
        Sentence.holds("Slots: When an envelope is sent, those slots become open that have no slots before them", """
                draft() 0
                addSlot(0, 1, 0) 0
                addSlot(0, 1, 1) 1
                addSlot(0, 1, 0) 2
                addSlot(0, 1, 0b101) 3
                slotState(0, 0) WAITING
                slotState(0, 2) WAITING
                send(0) 2
                slotState(0, 0) OPEN
                slotState(0, 1) WAITING
                slotState(0, 2) OPEN
                slotState(0, 3) WAITING
                """);
        Sentence.holds("Slots: all of them, up to eight", """
                draft() 0
                addRound(0, 255) 8
                send(0) 8
                slotState(0, 0) OPEN
                slotState(0, 7) OPEN
                """);
        Sentence.holds("Slots: none of another envelope", Beginnings.DRAFT + "draft() 1\naddSlot(1, 1, 0) 0\n" + """
                send(1) 1
                slotState(0, 0) WAITING
                slotState(1, 0) OPEN
                """);
    }

    private static void slotsOpenBehindAll() {
        String threeAndOne = """
                draft() 0
                addSlot(0, 1, 0) 0
                addSlot(0, 1, 0) 1
                addSlot(0, 1, 0) 2
                addSlot(0, 1, 0b111) 3
                send(0) 3
                """;
        int[][] orders = {{0, 1, 2}, {0, 2, 1}, {1, 0, 2}, {1, 2, 0}, {2, 0, 1}, {2, 1, 0}};
        for (int[] order : orders) {
            Sentence.holds("Slots: those waiting slots become open of which all slots before them are signed then", threeAndOne + """
                    sign(1, 0, %d) 0
                    slotState(0, 3) WAITING
                    sign(1, 0, %d) 0
                    slotState(0, 3) WAITING
                    sign(1, 0, %d) 1
                    slotState(0, 3) OPEN
                    """.formatted(order[0], order[1], order[2]));
        }
        Sentence.holds("Slots: a chain opens one by one", """
                draft() 0
                addSlot(0, 1, 0) 0
                addSlot(0, 1, 0b1) 1
                addSlot(0, 1, 0b10) 2
                send(0) 1
                sign(1, 0, 0) 1
                slotState(0, 1) OPEN
                slotState(0, 2) WAITING
                sign(1, 0, 1) 1
                slotState(0, 2) OPEN
                """);
        Sentence.holds("Slots: a slot that is open becomes open no more", Beginnings.FIVE + """
                sign(1, 0, 4) 0
                slotState(0, 0) OPEN
                slotState(0, 1) OPEN
                sign(1, 0, 0) 1
                """);
    }

    private static void lastSlotCompletes() {
        Sentence.holds("Slots: When the last slot is signed, the envelope is completed", Beginnings.sent(0, 1, 1) + """
                sign(1, 0, 0) 0
                state(0) COMPLETED
                slotState(0, 0) SIGNED
                """, Beginnings.sent(0, 1, 3) + """
                sign(1, 0, 2) 0      // the one with the greatest number is not the last
                state(0) SENT
                sign(1, 0, 0) 0
                state(0) SENT
                sign(1, 0, 1) 0
                state(0) COMPLETED
                """, Beginnings.sent(0, 1, 8) + """
                sign(1, 0, 7) 0
                sign(1, 0, 6) 0
                sign(1, 0, 5) 0
                sign(1, 0, 4) 0
                sign(1, 0, 3) 0
                sign(1, 0, 2) 0
                sign(1, 0, 1) 0
                state(0) SENT
                sign(1, 0, 0) 0
                state(0) COMPLETED
                """);
        Sentence.holds("Slots: also when a delegate signs it", Beginnings.sent(0, 1, 1) + """
                delegate(1, 2, 0, 0, 1) NONE
                sign(2, 0, 0) 0
                state(0) COMPLETED
                """);
        Sentence.holds("Slots: the last of this envelope, not of all", Beginnings.sent(0, 1, 1) + Beginnings.sent(1, 1, 1) + """
                sign(1, 1, 0) 0
                state(1) COMPLETED
                state(0) SENT
                """);
    }

    private static void endsCloseSlots() {
        String signedOpenWaiting = """
                draft() 0
                addSlot(0, 1, 0) 0
                addSlot(0, 1, 0) 1
                addSlot(0, 1, 0b10) 2
                setTimes(0, 0, 1)
                send(0) 2
                sign(1, 0, 0) 0
                """;
        for (String end : new String[] {"decline(1, 0, 1) 2\n", "cancel(0) 2\n", "pass(1) 0\n"}) {
            Sentence.holds("Slots: When it is declined, voided or expires, all of its slots that are not signed are closed",
                    signedOpenWaiting + end + """
                    slotState(0, 0) SIGNED
                    slotState(0, 1) CLOSED
                    slotState(0, 2) CLOSED
                    """);
        }
        Sentence.holds("Slots: of this envelope alone", Beginnings.timed(0, 1) + Beginnings.sent(1, 0, 1) + """
                pass(1) 0
                slotState(0, 0) CLOSED
                slotState(1, 0) OPEN
                """);
    }

    private static void endsStay() {
        int[] ends = {2, 3, 4, 5};
        for (int n = 0; n < ends.length; n++) {
            Sentence.holds("Envelopes: all but the first two are ends", Beginnings.ENDED[n] + """
                    state(0) %1$d
                    send(0) throws.IllegalStateException
                    sign(1, 0, 1) throws.IllegalStateException
                    decline(1, 0, 1) throws.IllegalStateException
                    cancel(0) throws.IllegalStateException
                    pass(60) 0
                    state(0) %1$d
                    """.formatted(ends[n]));
        }
    }

    private static void timesAtFirst() {
        Sentence.holds("Envelopes: a pace and a term, both 0 at first, which is none", Beginnings.SENT + """
                nextReminder(0) NONE
                pass(60) 0
                pass(60) 0
                state(0) SENT
                events(0) 1
                """);
    }

    private static void promise19Envelopes() {
        Sentence.holds("19: Returns how many envelopes there are", """
                envelopes() 0
                draft() 0
                envelopes() 1
                draft() 1
                draft() 2
                draft() 3
                draft() 4
                envelopes() 5
                draft() 5
                envelopes() 6
                draft() throws.IllegalStateException
                envelopes() 6
                """);
        Sentence.holds("19: in whatever state they are", Sentence.behindEach(Beginnings.EACH_STATE, """
                envelopes() 1
                draft() 1
                envelopes() 2
                """));
    }

    private static void promise20State() {
        for (int state = 0; state < Beginnings.EACH_STATE.length; state++) {
            Sentence.holds("20: Returns DRAFT to EXPIRED", Beginnings.EACH_STATE[state] + """
                    state(0) %d
                    draft() 1
                    state(1) DRAFT
                    """.formatted(state));
        }
    }

    private static void promise21Slots() {
        Sentence.holds("21: Returns 0 to 8", """
                draft() 0
                draft() 1
                slots(0) 0
                addSlot(0, 1, 0) 0
                slots(0) 1
                addRound(0, 0b111111) 7
                slots(0) 7
                addSlot(0, 1, 0) 7
                slots(0) 8
                slots(1) 0
                """);
        Sentence.holds("21: in whatever state it is", Sentence.behindEach(Beginnings.EACH_STATE, "slots(0) 2\n"));
    }

    private static void promise22SlotState() {
        Sentence.holds("22: Returns WAITING to CLOSED", """
                draft() 0
                addSlot(0, 0, 0) 0
                addSlot(0, 0, 1) 1
                slotState(0, 0) WAITING      // in a draft
                slotState(0, 1) WAITING
                send(0) 1
                slotState(0, 0) OPEN
                slotState(0, 1) WAITING
                sign(0, 0, 0) 1
                slotState(0, 0) SIGNED
                slotState(0, 1) OPEN
                cancel(0) 1
                slotState(0, 0) SIGNED
                slotState(0, 1) CLOSED
                """);
        Sentence.holds("22: the first and the last of eight", """
                draft() 0
                addRound(0, 255) 8
                send(0) 8
                sign(7, 0, 7) 0
                slotState(0, 7) SIGNED
                slotState(0, 0) OPEN
                """);
    }

    private static void promise23Missing() {
        Sentence.holds("23: how many of the slots before a slot, as they were told, are not signed", """
                draft() 0
                addSlot(0, 0, 0) 0
                addSlot(0, 0, 0b1) 1
                addSlot(0, 0, 0b10) 2
                addSlot(0, 0, 0b111) 3
                missing(0, 0) 0      // none were told
                missing(0, 1) 1
                missing(0, 2) 1      // not those before these
                missing(0, 3) 3
                send(0) 1
                missing(0, 3) 3      // open is not signed
                sign(0, 0, 0) 1
                missing(0, 1) 0      // all are signed
                missing(0, 2) 1
                missing(0, 3) 2
                sign(0, 0, 1) 1
                sign(0, 0, 2) 1
                missing(0, 3) 0
                """);
        for (String end : new String[] {"decline(0, 0, 1) 2\n", "cancel(0) 2\n", "pass(1) 0\n"}) {
            Sentence.holds("23 and 24: closed is not signed", """
                    draft() 0
                    addSlot(0, 0, 0) 0
                    addSlot(0, 0, 0) 1
                    addSlot(0, 0, 0b11) 2
                    setTimes(0, 0, 1)
                    send(0) 2
                    sign(0, 0, 0) 0
                    """ + end + """
                    missing(0, 0) 0
                    missing(0, 2) 1
                    share(0) 0.33333334
                    """);
        }
        Sentence.holds("23: up to seven", """
                draft() 0
                addRound(0, 0b1111111) 7
                addSlot(0, 0, 0b1111111) 7
                missing(0, 7) 7
                """);
    }

    private static void promise24Share() {
        Sentence.holds("24: how many, as a float, divided by how many the envelope has, as a float", """
                draft() 0
                addRound(0, 0b1111111) 7
                share(0) 0.0
                send(0) 7
                share(0) 0.0
                sign(0, 0, 0) 0
                share(0) 0.14285715
                sign(1, 0, 1) 0
                share(0) 0.2857143
                sign(2, 0, 2) 0
                share(0) 0.42857143
                sign(3, 0, 3) 0
                share(0) 0.5714286
                sign(4, 0, 4) 0
                share(0) 0.71428573
                sign(5, 0, 5) 0
                share(0) 0.85714287
                cancel(0) 1
                share(0) 0.85714287      // closed is not signed
                """);
        Sentence.holds("24: 1.0 if all are signed", Beginnings.COMPLETED + "share(0) 1.0\n");
        Sentence.holds("24: 0.0 if it has none", """
                draft() 0
                share(0) 0.0
                """);
        Sentence.holds("24: 0.0 if none is signed", Beginnings.VOIDED + "share(0) 0.0\n");
    }

    private static void noSuchEnvelope() {
        String[] calls = {"20: state(%d)", "21: slots(%d)", "22: slotState(%d, 0)", "23: missing(%d, 0)", "24: share(%d)"};
        for (String call : calls) {
            String line = call.substring(4) + " throws.IndexOutOfBoundsException\n";
            Sentence.holds(call.substring(0, 4) + "IndexOutOfBoundsException if there is no such envelope",
                    line.formatted(0),
                    Beginnings.SENT + line.formatted(-1) + line.formatted(1) + line.formatted(6)
                    + line.formatted(Integer.MIN_VALUE) + line.formatted(Integer.MAX_VALUE),
                    "draft()\n".repeat(6) + line.formatted(6) + "state(5) DRAFT\n");
        }
    }

    private static void noSuchSlot() {
        for (String call : new String[] {"22: slotState(0, %d)", "23: missing(0, %d)"}) {
            String asked = call.substring(4);
            String line = asked + " throws.IndexOutOfBoundsException\n";
            Sentence.holds(call.substring(0, 4) + "IndexOutOfBoundsException if there is no such slot",
                    "draft() 0\n" + line.formatted(0),
                    Beginnings.SENT + line.formatted(-1) + asked.formatted(1) + "\n" + line.formatted(2) + line.formatted(8)
                    + line.formatted(Integer.MIN_VALUE) + line.formatted(Integer.MAX_VALUE),
                    Beginnings.draft(0, 1, 8) + asked.formatted(0) + " 0\n" + asked.formatted(7) + " 0\n" + line.formatted(8),
                    Beginnings.DRAFT + Beginnings.draft(1, 1, 3) + line.formatted(2));
        }
    }
}
