/** Promises 1 to 6. */
public final class DraftsTest {
    public static void main(String[] args) {
        promise1NewObject();
        promise2Draft();
        promise3AddSlot();
        promise3NoSuchEnvelopeOrPerson();
        promise3Before();
        promise3NoDraftOrEightSlots();
        promise3SeveralApply();
        promise4AddRound();
        promise4People();
        promise4NoDraftOrMoreThanEightSlots();
        promise4SeveralApply();
        promise5SetTimes();
        promise5Range();
        promise5SeveralApply();
        promise6Send();
        promise6Refuses();
        Check.end();
    }

    private static void promise1NewObject() {
        Sentence.holds("1: A desk without envelopes", """
                envelopes() 0
                state(0) throws.IndexOutOfBoundsException
                draft() 0
                """);
        for (int p = 0; p < 8; p++) {
            Sentence.holds("1: A desk without delegates", """
                    delegateToday(%1$d) NONE
                    signedFor(%1$d) 0
                    toSign(%1$d) 0
                    revoke(%1$d) throws.IllegalStateException
                    delegate(%1$d, %2$d, 0, 0, 1) NONE
                    """.formatted(p, 7 - p));
        }
        Desk used = new Desk();
        Desk other = new Desk();
        used.answer("draft()");
        used.answer("delegate(0, 1, 0, 0, 1)");
        used.answer("pass(3)");
        Check.due("1: another object has no envelope", other.answer("envelopes()"), "0");
        Check.due("1: another object has no delegate", other.answer("delegateToday(0)"), "-1");
        Check.due("1: another object is at day 0", other.answer("today()"), "0");
    }

    private static void promise2Draft() {
        Sentence.holds("2: Drafts an envelope without slots", """
                draft() 0
                state(0) DRAFT
                slots(0) 0
                slotState(0, 0) throws.IndexOutOfBoundsException
                events(0) 0
                """);
        Sentence.holds("2: Returns its number; throws if there are 6", """
                draft() 0
                draft() 1
                draft() 2
                draft() 3
                draft() 4
                draft() 5
                draft() throws.IllegalStateException
                envelopes() 6
                draft() throws.IllegalStateException
                """);
        Sentence.holds("2: an envelope that ended counts too", Beginnings.VOIDED + "draft() 1\ndraft() 2\ndraft() 3\n" + """
                draft() 4
                draft() 5
                draft() throws.IllegalStateException
                """);
    }

    private static void promise3AddSlot() {
        Sentence.holds("3: Adds a slot to a draft; returns its number", """
                draft() 0
                draft() 1
                addSlot(1, 7, 0) 0
                addSlot(1, 0, 0) 1
                slots(0) 0
                addSlot(0, 3, 0) 0
                addSlot(1, 7, 0) 2
                slots(1) 3
                """);
        Sentence.holds("3: person: who has to sign", """
                draft() 0
                addSlot(0, 7, 0) 0
                addSlot(0, 0, 0) 1
                addSlot(0, 7, 0) 2
                send(0) 3
                whyNot(7, 0, 0) 0
                whyNot(0, 0, 0) 4
                whyNot(0, 0, 1) 0
                whyNot(7, 0, 1) 4
                whyNot(7, 0, 2) 0
                """);
        Sentence.holds("3: the set of slots before it: each counts 2 to the power of its number", """
                draft() 0
                addSlot(0, 0, 0) 0
                addSlot(0, 1, 0b1) 1
                addSlot(0, 2, 0b10) 2
                addSlot(0, 3, 0b101) 3
                missing(0, 0) 0
                missing(0, 1) 1
                missing(0, 2) 1
                missing(0, 3) 2
                send(0) 1
                sign(0, 0, 0) 1      // slot 1
                slotState(0, 1) OPEN
                sign(1, 0, 1) 1      // slot 2
                slotState(0, 2) OPEN
                slotState(0, 3) WAITING
                sign(2, 0, 2) 1      // slot 3
                """);
    }

    private static void promise3NoSuchEnvelopeOrPerson() {
        Sentence.holds("3: IndexOutOfBoundsException if there is no such envelope", """
                addSlot(0, 0, 0) throws.IndexOutOfBoundsException
                draft() 0
                addSlot(-1, 0, 0) throws.IndexOutOfBoundsException
                addSlot(1, 0, 0) throws.IndexOutOfBoundsException
                addSlot(-2147483648, 0, 0) throws.IndexOutOfBoundsException
                addSlot(2147483647, 0, 0) throws.IndexOutOfBoundsException
                draft() 1
                draft() 2
                draft() 3
                draft() 4
                draft() 5
                addSlot(6, 0, 0) throws.IndexOutOfBoundsException
                addSlot(5, 0, 0) 0
                addSlot(0, 0, 0) 0
                """);
        Sentence.holds("3: IndexOutOfBoundsException if there is no such person", """
                draft() 0
                addSlot(0, -1, 0) throws.IndexOutOfBoundsException
                addSlot(0, 8, 0) throws.IndexOutOfBoundsException
                addSlot(0, -2147483648, 0) throws.IndexOutOfBoundsException
                addSlot(0, 2147483647, 0) throws.IndexOutOfBoundsException
                addSlot(0, 0, 0) 0
                addSlot(0, 7, 0) 1
                """);
    }

    private static void promise3Before() {
        Sentence.holds("3: IllegalArgumentException if before is below 0", """
                draft() 0
                addSlot(0, 1, -1) throws.IllegalArgumentException
                addSlot(0, 1, -2147483648) throws.IllegalArgumentException
                addSlot(0, 1, 0) 0
                addSlot(0, 1, -1) throws.IllegalArgumentException
                addSlot(0, 1, -2147483647) throws.IllegalArgumentException   // has slot 0, as a set
                addSlot(0, 1, 0) 1
                """);
        Sentence.holds("3: IllegalArgumentException if before has a slot that the envelope does not have", """
                draft() 0
                addSlot(0, 1, 1) throws.IllegalArgumentException
                addSlot(0, 1, 0) 0
                addSlot(0, 1, 0b10) throws.IllegalArgumentException
                addSlot(0, 1, 0b11) throws.IllegalArgumentException
                addSlot(0, 1, 0b1) 1
                addSlot(0, 1, 0b100) throws.IllegalArgumentException
                addSlot(0, 1, 0b101) throws.IllegalArgumentException
                addSlot(0, 1, 256) throws.IllegalArgumentException
                addSlot(0, 1, 1073741824) throws.IllegalArgumentException
                addSlot(0, 1, 2147483647) throws.IllegalArgumentException
                addSlot(0, 1, 0b11) 2
                """);
        Sentence.holds("3: before has the last slots that there can be", """
                draft() 0
                addRound(0, 0b1111111) 7
                addSlot(0, 1, 0b10000000) throws.IllegalArgumentException
                addSlot(0, 1, 0b1111111) 7
                missing(0, 7) 7
                """);
        Sentence.holds("3: a slot of another envelope is none that the envelope has", """
                draft() 0
                draft() 1
                addRound(0, 0b111) 3
                addSlot(1, 1, 0b1) throws.IllegalArgumentException
                addSlot(1, 1, 0) 0
                addSlot(1, 1, 0b10) throws.IllegalArgumentException
                """);
    }

    private static void promise3NoDraftOrEightSlots() {
        Sentence.holds("3: IllegalStateException if the envelope is no draft", Sentence.behindEach(Beginnings.NO_DRAFT, """
                addSlot(0, 1, 0) throws.IllegalStateException
                addSlot(0, 1, 0b11) throws.IllegalStateException
                slots(0) 2
                """));
        Sentence.holds("3: IllegalStateException if the envelope has 8 slots", Beginnings.draft(0, 1, 7) + """
                addSlot(0, 7, 0) 7
                addSlot(0, 1, 0) throws.IllegalStateException
                addSlot(0, 1, 0b11111111) throws.IllegalStateException
                slots(0) 8
                """);
    }

    private static void promise3SeveralApply() {
        Sentence.holds("3: no such envelope ahead of before", """
                draft() 0
                addSlot(1, 0, -1) throws.IndexOutOfBoundsException
                addSlot(-1, 0, 1) throws.IndexOutOfBoundsException
                """);
        Sentence.holds("3: no such person ahead of before", """
                draft() 0
                addSlot(0, 8, -1) throws.IndexOutOfBoundsException
                addSlot(0, -1, 1) throws.IndexOutOfBoundsException
                """);
        Sentence.holds("3: no such person ahead of no draft", Beginnings.SENT
                + "addSlot(0, 8, 0) throws.IndexOutOfBoundsException");
        Sentence.holds("3: no such person ahead of 8 slots", Beginnings.draft(0, 1, 8)
                + "addSlot(0, -1, 0) throws.IndexOutOfBoundsException");
        Sentence.holds("3: before ahead of no draft", Beginnings.SENT + """
                addSlot(0, 1, -1) throws.IllegalArgumentException
                addSlot(0, 1, 0b100) throws.IllegalArgumentException
                """);
        Sentence.holds("3: before ahead of 8 slots", Beginnings.draft(0, 1, 8) + """
                addSlot(0, 1, -1) throws.IllegalArgumentException
                addSlot(0, 1, 256) throws.IllegalArgumentException
                """);
        Sentence.holds("3: all three", Beginnings.SENT + "addSlot(0, 8, -1) throws.IndexOutOfBoundsException",
                Beginnings.draft(0, 1, 8) + "addSlot(0, 8, 256) throws.IndexOutOfBoundsException");
    }

    private static void promise4AddRound() {
        Sentence.holds("4: a slot for each person of a set, by rising numbers", """
                draft() 0
                addRound(0, 0b10100001) 3
                send(0) 3
                whyNot(0, 0, 0) 0
                whyNot(5, 0, 1) 0
                whyNot(7, 0, 2) 0
                slots(0) 3
                """);
        Sentence.holds("4: before each of them all slots that the envelope has ahead of the call", """
                draft() 0
                addRound(0, 0b10100001) 3
                addSlot(0, 1, 0b1) 3
                addRound(0, 0b00100010) 6
                addRound(0, 0b00000001) 7
                missing(0, 0) 0
                missing(0, 1) 0      // not those of the same round
                missing(0, 2) 0
                missing(0, 4) 4
                missing(0, 5) 4
                missing(0, 6) 6
                send(0) 3
                sign(0, 0, 0) 1
                sign(1, 0, 3) 0
                sign(5, 0, 1) 0
                sign(7, 0, 2) 2      // the last of the four
                sign(5, 0, 5) 0
                sign(1, 0, 4) 1
                """);
        Sentence.holds("4: Returns how many slots the envelope has then", """
                draft() 0
                draft() 1
                addRound(1, 0b1) 1
                addRound(1, 0b110) 3
                slots(1) 3
                slots(0) 0
                """);
    }

    private static void promise4People() {
        Sentence.holds("4: IndexOutOfBoundsException if there is no such envelope", """
                addRound(0, 1) throws.IndexOutOfBoundsException
                draft() 0
                addRound(-1, 1) throws.IndexOutOfBoundsException
                addRound(1, 1) throws.IndexOutOfBoundsException
                addRound(-2147483648, 1) throws.IndexOutOfBoundsException
                addRound(2147483647, 1) throws.IndexOutOfBoundsException
                draft() 1
                draft() 2
                draft() 3
                draft() 4
                draft() 5
                addRound(6, 1) throws.IndexOutOfBoundsException
                addRound(5, 1) 1
                addRound(0, 1) 1
                """);
        Sentence.holds("4: IllegalArgumentException if people is not 1 to 255", """
                draft() 0
                addRound(0, 0) throws.IllegalArgumentException
                addRound(0, 256) throws.IllegalArgumentException
                addRound(0, 257) throws.IllegalArgumentException     // has person 0, as a set
                addRound(0, -1) throws.IllegalArgumentException
                addRound(0, -255) throws.IllegalArgumentException
                addRound(0, -2147483648) throws.IllegalArgumentException
                addRound(0, 2147483647) throws.IllegalArgumentException
                addRound(0, 1) 1
                draft() 1
                addRound(1, 255) 8
                draft() 2
                addRound(2, 128) 1
                send(2) 1
                whyNot(7, 2, 0) 0
                """);
    }

    private static void promise4NoDraftOrMoreThanEightSlots() {
        Sentence.holds("4: IllegalStateException if the envelope is no draft", Sentence.behindEach(Beginnings.NO_DRAFT, """
                addRound(0, 1) throws.IllegalStateException
                slots(0) 2
                """));
        Sentence.holds("4: IllegalStateException if it would have more than 8 slots", """
                draft() 0
                addRound(0, 0b1) 1
                addRound(0, 0b11111111) throws.IllegalStateException
                slots(0) 1
                addRound(0, 0b11111110) 8
                addRound(0, 0b1) throws.IllegalStateException
                addRound(0, 0b10000000) throws.IllegalStateException
                slots(0) 8
                """, Beginnings.draft(0, 1, 7) + """
                addRound(0, 0b10000001) throws.IllegalStateException
                slots(0) 7
                addRound(0, 0b10000000) 8
                """);
    }

    private static void promise4SeveralApply() {
        Sentence.holds("4: no such envelope ahead of people", """
                addRound(0, 0) throws.IndexOutOfBoundsException
                draft() 0
                addRound(1, 256) throws.IndexOutOfBoundsException
                addRound(-1, 0) throws.IndexOutOfBoundsException
                """);
        Sentence.holds("4: people ahead of no draft", Beginnings.SENT + """
                addRound(0, 0) throws.IllegalArgumentException
                addRound(0, 256) throws.IllegalArgumentException
                """);
        Sentence.holds("4: people ahead of more than 8 slots", Beginnings.draft(0, 1, 8) + """
                addRound(0, 0) throws.IllegalArgumentException
                addRound(0, 511) throws.IllegalArgumentException
                addRound(0, -1) throws.IllegalArgumentException
                """);
    }

    private static void promise5SetTimes() {
        Sentence.holds("5: Sets the pace of a draft", Beginnings.DRAFT + """
                setTimes(0, 7, 0)
                setTimes(0, 2, 0)    // the last one stands
                send(0) 2
                nextReminder(0) 2
                pass(1) 0
                pass(1) 2
                pass(60) 8
                state(0) SENT
                """);
        Sentence.holds("5: Sets the term of a draft", Beginnings.DRAFT + """
                setTimes(0, 0, 9)
                setTimes(0, 0, 3)
                send(0) 2
                nextReminder(0) NONE
                pass(2) 0
                state(0) SENT
                pass(1) 0
                state(0) EXPIRED
                """);
        Sentence.holds("5: 0 takes both away again", Beginnings.DRAFT + """
                setTimes(0, 5, 4)
                setTimes(0, 0, 0)
                send(0) 2
                nextReminder(0) NONE
                pass(60) 0
                state(0) SENT
                """);
        Sentence.holds("5: of one draft, not of another", Beginnings.DRAFT + "draft() 1\naddSlot(1, 1, 0) 0\n" + """
                setTimes(1, 5, 4)
                send(0) 2
                send(1) 1
                nextReminder(0) NONE
                nextReminder(1) 5
                pass(4) 0
                state(0) SENT
                state(1) EXPIRED
                """);
        Sentence.holds("5: of a draft without slots", """
                draft() 0
                setTimes(0, 3, 4)
                addSlot(0, 1, 0) 0
                send(0) 1
                nextReminder(0) 3
                pass(4) 1
                state(0) EXPIRED
                """);
    }

    private static void promise5Range() {
        Sentence.holds("5: IndexOutOfBoundsException if there is no such envelope", """
                setTimes(0, 1, 1) throws.IndexOutOfBoundsException
                draft() 0
                setTimes(-1, 1, 1) throws.IndexOutOfBoundsException
                setTimes(1, 1, 1) throws.IndexOutOfBoundsException
                setTimes(6, 1, 1) throws.IndexOutOfBoundsException
                setTimes(-2147483648, 1, 1) throws.IndexOutOfBoundsException
                setTimes(2147483647, 1, 1) throws.IndexOutOfBoundsException
                setTimes(0, 1, 1)
                """);
        Sentence.holds("5: pace: 0 to 30", Beginnings.DRAFT + """
                setTimes(0, 3, 50)
                setTimes(0, -1, 7) throws.IllegalArgumentException
                setTimes(0, 31, 7) throws.IllegalArgumentException
                setTimes(0, -2147483648, 7) throws.IllegalArgumentException
                setTimes(0, 2147483647, 7) throws.IllegalArgumentException
                setTimes(0, 0, 50)
                setTimes(0, 30, 50)
                send(0) 2
                nextReminder(0) 30
                pass(29) 0
                pass(1) 2
                pass(19) 0
                state(0) SENT
                """);
        Sentence.holds("5: term: 0 to 60", Beginnings.DRAFT + """
                setTimes(0, 3, 50)
                setTimes(0, 7, -1) throws.IllegalArgumentException
                setTimes(0, 7, 61) throws.IllegalArgumentException
                setTimes(0, 7, -2147483648) throws.IllegalArgumentException
                setTimes(0, 7, 2147483647) throws.IllegalArgumentException
                setTimes(0, 3, 0)
                setTimes(0, 3, 60)
                send(0) 2
                nextReminder(0) 3
                pass(59) 10
                state(0) SENT
                pass(1) 0
                state(0) EXPIRED
                """);
        Sentence.holds("5: IllegalStateException if the envelope is no draft", Sentence.behindEach(Beginnings.NO_DRAFT, """
                setTimes(0, 1, 1) throws.IllegalStateException
                setTimes(0, 0, 0) throws.IllegalStateException
                """));
    }

    private static void promise5SeveralApply() {
        Sentence.holds("5: no such envelope ahead of pace and term", """
                draft() 0
                setTimes(1, -1, 1) throws.IndexOutOfBoundsException
                setTimes(1, 1, 61) throws.IndexOutOfBoundsException
                setTimes(-1, 31, -1) throws.IndexOutOfBoundsException
                """);
        Sentence.holds("5: pace and term ahead of no draft", Beginnings.SENT + """
                setTimes(0, -1, 1) throws.IllegalArgumentException
                setTimes(0, 31, 1) throws.IllegalArgumentException
                setTimes(0, 1, -1) throws.IllegalArgumentException
                setTimes(0, 1, 61) throws.IllegalArgumentException
                setTimes(0, 31, 61) throws.IllegalArgumentException
                """);
    }

    private static void promise6Send() {
        Sentence.holds("6: Sends a draft", """
                draft() 0
                draft() 1
                addSlot(1, 4, 0) 0
                pass(3) 0
                send(1) 1
                state(1) SENT
                state(0) DRAFT
                events(1) 1
                kindOf(1, 0) SENDING
                dayOf(1, 0) 3
                """);
        Sentence.holds("6: Returns how many slots are open then", """
                draft() 0
                addSlot(0, 4, 0) 0
                send(0) 1
                draft() 1
                addRound(1, 255) 8
                send(1) 8
                draft() 2
                addSlot(2, 4, 0) 0
                addSlot(2, 4, 1) 1
                addSlot(2, 4, 0) 2
                send(2) 2
                """);
    }

    private static void promise6Refuses() {
        Sentence.holds("6: IndexOutOfBoundsException if there is no such envelope", """
                send(0) throws.IndexOutOfBoundsException
                draft() 0
                addSlot(0, 1, 0) 0
                send(-1) throws.IndexOutOfBoundsException
                send(1) throws.IndexOutOfBoundsException
                send(6) throws.IndexOutOfBoundsException
                send(-2147483648) throws.IndexOutOfBoundsException
                send(2147483647) throws.IndexOutOfBoundsException
                """);
        Sentence.holds("6: IllegalStateException if it is no draft",
                Sentence.behindEach(Beginnings.NO_DRAFT, "send(0) throws.IllegalStateException"));
        Sentence.holds("6: IllegalStateException if it has no slots", """
                draft() 0
                send(0) throws.IllegalStateException
                state(0) DRAFT
                addSlot(0, 1, 0) 0
                send(0) 1
                """);
    }
}
