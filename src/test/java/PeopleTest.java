/** Promises 7 to 10, and 15: who signs, declines and voids. */
public final class PeopleTest {
    /** Behind this, 0 is the one envelope, and 1 the person of its slots 0 and 1; the slot 2 there is not. */
    private static final String STRANGERS = """
            %1$s(-1, 0, 0) throws.IndexOutOfBoundsException
            %1$s(8, 0, 0) throws.IndexOutOfBoundsException
            %1$s(-2147483648, 0, 0) throws.IndexOutOfBoundsException
            %1$s(2147483647, 0, 0) throws.IndexOutOfBoundsException
            %1$s(1, -1, 0) throws.IndexOutOfBoundsException
            %1$s(1, 1, 0) throws.IndexOutOfBoundsException
            %1$s(1, 6, 0) throws.IndexOutOfBoundsException
            %1$s(1, -2147483648, 0) throws.IndexOutOfBoundsException
            %1$s(1, 2147483647, 0) throws.IndexOutOfBoundsException
            %1$s(1, 0, -1) throws.IndexOutOfBoundsException
            %1$s(1, 0, 2) throws.IndexOutOfBoundsException
            %1$s(1, 0, 8) throws.IndexOutOfBoundsException
            %1$s(1, 0, -2147483648) throws.IndexOutOfBoundsException
            %1$s(1, 0, 2147483647) throws.IndexOutOfBoundsException
            """;
    /** Each number that there is not, with the two others in order. */
    private static final String BESIDE_EIGHT = """
            %1$s(-1, 0, 0) throws.IndexOutOfBoundsException
            %1$s(8, 0, 0) throws.IndexOutOfBoundsException
            %1$s(1, 1, 0) throws.IndexOutOfBoundsException
            %1$s(1, 0, 8) throws.IndexOutOfBoundsException
            """;

    public static void main(String[] args) {
        promise7Sign();
        promise7SignAsDelegate();
        promise7Refuses();
        promise8AsPersonOrDelegate();
        promise8NotSentOrNotOpen();
        promise8AnotherPerson();
        promise8NoMoreToday();
        promise8Refuses();
        promise9Decline();
        promise9Refuses();
        promise10Cancel();
        promise10Refuses();
        promise15ToSign();
        promise15AsDelegate();
        Check.end();
    }

    private static void promise7Sign() {
        Sentence.holds("7: Returns how many slots become open by that", Beginnings.FIVE + """
                sign(1, 0, 4) 0
                sign(1, 0, 0) 1
                slotState(0, 3) OPEN
                slotState(0, 2) WAITING
                sign(1, 0, 1) 1
                slotState(0, 2) OPEN
                sign(1, 0, 2) 0
                sign(1, 0, 3) 0
                """);
        Sentence.holds("7: none and all of the others become open", """
                draft() 0
                addSlot(0, 0, 0) 0
                addSlot(0, 1, 1) 1
                addSlot(0, 2, 1) 2
                addSlot(0, 3, 1) 3
                addSlot(0, 4, 1) 4
                addSlot(0, 5, 1) 5
                addSlot(0, 6, 1) 6
                addSlot(0, 7, 1) 7
                send(0) 1
                sign(0, 0, 0) 7
                sign(7, 0, 7) 0
                sign(1, 0, 1) 0
                """);
        Sentence.holds("7: signs the slot that is told, and no other", """
                draft() 0
                addRound(0, 255) 8
                draft() 1
                addRound(1, 255) 8
                send(0) 8
                send(1) 8
                sign(7, 0, 7) 0
                slotState(0, 7) SIGNED
                slotState(0, 0) OPEN
                slotState(0, 6) OPEN
                slotState(1, 7) OPEN
                sign(0, 0, 0) 0
                slotState(0, 0) SIGNED
                slotState(1, 0) OPEN
                """);
    }

    private static void promise7SignAsDelegate() {
        Sentence.holds("7: in the place of its person as the delegate, if the person is not the one of the slot", Beginnings.FIVE + """
                delegate(1, 6, 0, 0, 1) NONE
                sign(6, 0, 0) 1
                kindOf(0, 1) SIGNING_FOR
                personOf(0, 1) 6
                signedFor(1) 1
                signedFor(6) 0
                """);
        Sentence.holds("7: as the person of the slot, also with a delegate today", Beginnings.FIVE + """
                delegate(1, 6, 0, 0, 1) NONE
                sign(1, 0, 0) 1
                kindOf(0, 1) SIGNING
                personOf(0, 1) 1
                signedFor(1) 0
                sign(6, 0, 1) 1          // the delegate's own count has not begun
                sign(1, 0, 2) 0          // the person may go on at the limit
                kindOf(0, 3) SIGNING
                """);
        Sentence.holds("7: a slot of the delegate's own is signed as such", Beginnings.draft(0, 1, 1) + """
                addSlot(0, 6, 0) 1
                send(0) 2
                delegate(1, 6, 0, 0, 1) NONE
                sign(6, 0, 1) 0
                kindOf(0, 1) SIGNING
                signedFor(1) 0
                signedFor(6) 0
                """);
    }

    private static void promise7Refuses() {
        Sentence.holds("7: IndexOutOfBoundsException if there is no such person, envelope or slot",
                "sign(0, 0, 0) throws.IndexOutOfBoundsException",
                Beginnings.SENT + STRANGERS.formatted("sign"),
                Beginnings.sent(0, 1, 8) + BESIDE_EIGHT.formatted("sign") + "sign(1, 0, 7) 0\nsign(1, 0, 0) 0");
        Sentence.holds("7: no such person, envelope or slot ahead of not sent",
                Beginnings.DRAFT + STRANGERS.formatted("sign"), Beginnings.COMPLETED + STRANGERS.formatted("sign"));
        Sentence.holds("7: no such slot in an envelope without slots", "draft() 0\nsign(1, 0, 0) throws.IndexOutOfBoundsException");
        Sentence.holds("7: IllegalStateException if whyNot() is 2", Sentence.behindEach(Beginnings.NOT_SENT, """
                whyNot(1, 0, 1) 2
                sign(1, 0, 1) throws.IllegalStateException
                """));
        Sentence.holds("7: IllegalStateException if whyNot() is 3", Beginnings.FIVE + """
                whyNot(1, 0, 2) 3
                sign(1, 0, 2) throws.IllegalStateException
                sign(1, 0, 0) 1
                whyNot(1, 0, 0) 3
                sign(1, 0, 0) throws.IllegalStateException
                """);
        Sentence.holds("7: IllegalStateException if whyNot() is 4", Beginnings.FIVE + """
                whyNot(2, 0, 0) 4
                sign(2, 0, 0) throws.IllegalStateException
                delegate(1, 3, 1, 1, 1) NONE
                sign(3, 0, 0) throws.IllegalStateException
                delegate(2, 1, 0, 9, 1) NONE
                sign(2, 0, 0) throws.IllegalStateException
                """);
        Sentence.holds("7: IllegalStateException if whyNot() is 5", Beginnings.FIVE + """
                delegate(1, 2, 0, 0, 1) NONE
                sign(2, 0, 0) 1
                whyNot(2, 0, 1) 5
                sign(2, 0, 1) throws.IllegalStateException
                signedFor(1) 1
                """);
    }

    private static void promise8AsPersonOrDelegate() {
        Sentence.holds("8: 0 as the person of the slot, 1 as the delegate", Beginnings.FIVE + """
                delegate(1, 3, 0, 0, 1) NONE
                whyNot(1, 0, 0) 0
                whyNot(3, 0, 0) 1
                whyNot(1, 0, 4) 0
                whyNot(3, 0, 4) 1
                """);
        Sentence.holds("8: each of the people", """
                draft() 0
                addRound(0, 255) 8
                send(0) 8
                delegate(0, 7, 0, 0, 1) NONE
                delegate(7, 0, 0, 0, 1) NONE
                whyNot(0, 0, 0) 0
                whyNot(7, 0, 0) 1
                whyNot(7, 0, 7) 0
                whyNot(0, 0, 7) 1
                whyNot(3, 0, 3) 0
                whyNot(0, 0, 3) 4
                whyNot(7, 0, 3) 4
                """);
    }

    private static void promise8NotSentOrNotOpen() {
        Sentence.holds("8: 2 the envelope is not sent", Sentence.behindEach(Beginnings.NOT_SENT, """
                whyNot(1, 0, 0) 2
                whyNot(1, 0, 1) 2
                whyNot(0, 0, 0) 2    // another person too
                delegate(1, 2, 5, 5, 1) NONE
                whyNot(2, 0, 1) 2
                pass(5) 0
                """));
        Sentence.holds("8: 2 also with a delegate at the limit", Beginnings.FIVE + """
                delegate(1, 2, 0, 0, 1) NONE
                sign(2, 0, 0) 1
                cancel(0) 4
                whyNot(2, 0, 1) 2
                whyNot(2, 0, 0) 2
                """);
        Sentence.holds("8: 3 the slot is not open", Beginnings.FIVE + """
                whyNot(1, 0, 2) 3
                whyNot(1, 0, 3) 3
                sign(1, 0, 0) 1
                whyNot(1, 0, 0) 3
                whyNot(1, 0, 2) 3    // one of the two before it
                whyNot(1, 0, 3) 0
                """);
        Sentence.holds("8: 3 ahead of 4 and 5", Beginnings.FIVE + """
                whyNot(0, 0, 2) 3
                delegate(1, 2, 0, 0, 1) NONE
                whyNot(2, 0, 2) 3
                sign(2, 0, 0) 1
                whyNot(2, 0, 0) 3
                whyNot(2, 0, 2) 3
                whyNot(2, 0, 3) 5
                """);
    }

    private static void promise8AnotherPerson() {
        Sentence.holds("8: 4 the person of the slot is another one, and has not this person as delegate today", Beginnings.FIVE + """
                whyNot(0, 0, 0) 4
                whyNot(7, 0, 0) 4
                delegate(1, 3, 1, 2, 2) NONE
                whyNot(3, 0, 0) 4        // not yet
                pass(1) 0
                whyNot(3, 0, 0) 1
                whyNot(0, 0, 0) 4        // another one
                pass(1) 0
                whyNot(3, 0, 0) 1
                pass(1) 0
                whyNot(3, 0, 0) 4        // no more
                """);
        Sentence.holds("8: 4 a delegate of a delegate, and one for whom the person is delegate", Beginnings.FIVE + """
                delegate(1, 3, 0, 0, 9) NONE
                delegate(3, 5, 0, 0, 9) NONE
                delegate(6, 1, 0, 0, 9) NONE
                whyNot(3, 0, 0) 1
                whyNot(5, 0, 0) 4
                whyNot(6, 0, 0) 4
                """);
        Sentence.holds("8: 4 ahead of 5", Beginnings.FIVE + """
                delegate(1, 3, 0, 0, 1) NONE
                sign(3, 0, 0) 1
                whyNot(3, 0, 1) 5
                whyNot(4, 0, 1) 4
                delegate(1, 4, 0, 0, 1) 3
                whyNot(3, 0, 1) 4
                whyNot(4, 0, 1) 5
                delegate(1, 4, 1, 1, 1) 4
                whyNot(4, 0, 1) 4
                """);
    }

    private static void promise8NoMoreToday() {
        Sentence.holds("8: 5 as many slots as the delegate may sign in a day were signed in the place of the person today", Beginnings.FIVE + """
                delegate(1, 3, 0, 9, 2) NONE
                sign(3, 0, 0) 1
                whyNot(3, 0, 1) 1        // one of two
                sign(3, 0, 1) 1
                whyNot(3, 0, 2) 5        // two of two
                whyNot(1, 0, 2) 0        // the person itself may
                pass(1) 0
                whyNot(3, 0, 2) 1
                """);
        Sentence.holds("8: 5 also when more were signed than a new delegate may", Beginnings.FIVE + """
                delegate(1, 3, 0, 9, 3) NONE
                sign(3, 0, 0) 1
                sign(3, 0, 1) 1
                delegate(1, 4, 0, 9, 1) 3
                whyNot(4, 0, 2) 5
                delegate(1, 4, 0, 9, 2) 4
                whyNot(4, 0, 2) 5
                delegate(1, 4, 0, 9, 3) 4
                whyNot(4, 0, 2) 1
                """);
        Sentence.holds("8: 5 counts the slots of the person, in all envelopes, and none that it signed itself",
                Beginnings.sent(0, 1, 3) + Beginnings.sent(1, 1, 2) + Beginnings.sent(2, 2, 2) + """
                delegate(1, 3, 0, 0, 2) NONE
                delegate(2, 3, 0, 0, 2) NONE
                sign(1, 0, 0) 0
                sign(3, 0, 1) 0
                sign(3, 2, 0) 0          // for person 2
                whyNot(3, 1, 0) 1
                sign(3, 1, 0) 0
                whyNot(3, 1, 1) 5
                whyNot(3, 0, 2) 5
                whyNot(3, 2, 1) 1
                """);
        Sentence.holds("8: 5 at the greatest limit", Beginnings.sent(0, 1, 8) + Beginnings.sent(1, 1, 2) + """
                delegate(1, 0, 0, 0, 9) NONE
                sign(0, 0, 0) 0
                sign(0, 0, 1) 0
                sign(0, 0, 2) 0
                sign(0, 0, 3) 0
                sign(0, 0, 4) 0
                sign(0, 0, 5) 0
                sign(0, 0, 6) 0
                sign(0, 0, 7) 0
                whyNot(0, 1, 0) 1
                sign(0, 1, 0) 0
                whyNot(0, 1, 1) 5
                signedFor(1) 9
                """);
    }

    private static void promise8Refuses() {
        Sentence.holds("8: IndexOutOfBoundsException if there is no such person, envelope or slot",
                "whyNot(0, 0, 0) throws.IndexOutOfBoundsException",
                "draft() 0\nwhyNot(0, 0, 0) throws.IndexOutOfBoundsException",
                Beginnings.sent(0, 1, 8) + BESIDE_EIGHT.formatted("whyNot") + "whyNot(1, 0, 7) 0\nwhyNot(0, 0, 0) 4\nwhyNot(7, 0, 0) 4");
        Sentence.holds("8: also if the envelope is not sent",
                Sentence.behindEach(Beginnings.EACH_STATE, STRANGERS.formatted("whyNot")));
    }

    private static void promise9Decline() {
        Sentence.holds("9: Lets the person of an open slot decline: the envelope is declined", Beginnings.FIVE + """
                sign(1, 0, 0) 1
                pass(2) 0
                decline(1, 0, 3) 4
                state(0) DECLINED
                slotState(0, 0) SIGNED
                slotState(0, 1) CLOSED
                slotState(0, 2) CLOSED
                slotState(0, 3) CLOSED
                slotState(0, 4) CLOSED
                events(0) 3
                kindOf(0, 2) DECLINING
                personOf(0, 2) 1
                dayOf(0, 2) 2
                """);
        Sentence.holds("9: Returns how many slots are closed by that", Beginnings.FIVE + "decline(1, 0, 4) 5\n",
                Beginnings.sent(0, 1, 1) + "decline(1, 0, 0) 1\n",
                Beginnings.sent(0, 1, 8) + "decline(1, 0, 7) 8\n",
                Beginnings.sent(0, 1, 2) + "sign(1, 0, 1) 0\ndecline(1, 0, 0) 1\n");
        Sentence.holds("9: no other envelope is declined", Beginnings.sent(0, 1, 1) + Beginnings.sent(1, 1, 1) + """
                decline(1, 1, 0) 1
                state(0) SENT
                slotState(0, 0) OPEN
                """);
    }

    private static void promise9Refuses() {
        Sentence.holds("9: IndexOutOfBoundsException if there is no such person, envelope or slot",
                "decline(0, 0, 0) throws.IndexOutOfBoundsException",
                "draft() 0\ndecline(0, 0, 0) throws.IndexOutOfBoundsException",
                Beginnings.SENT + STRANGERS.formatted("decline"),
                Beginnings.sent(0, 1, 8) + BESIDE_EIGHT.formatted("decline") + "decline(1, 0, 7) 8");
        Sentence.holds("9: no such person, envelope or slot ahead of not sent",
                Beginnings.DRAFT + STRANGERS.formatted("decline"), Beginnings.DECLINED + STRANGERS.formatted("decline"));
        Sentence.holds("9: IllegalStateException if the envelope is not sent",
                Sentence.behindEach(Beginnings.NOT_SENT, "decline(1, 0, 1) throws.IllegalStateException"));
        Sentence.holds("9: IllegalStateException if the slot is not open", Beginnings.FIVE + """
                decline(1, 0, 2) throws.IllegalStateException
                sign(1, 0, 0) 1
                decline(1, 0, 0) throws.IllegalStateException
                decline(1, 0, 2) throws.IllegalStateException
                decline(1, 0, 3) 4
                """);
        Sentence.holds("9: IllegalStateException if the person is not the one of the slot", Beginnings.FIVE + """
                decline(0, 0, 0) throws.IllegalStateException
                decline(7, 0, 0) throws.IllegalStateException
                delegate(1, 2, 0, 9, 9) NONE
                whyNot(2, 0, 0) 1
                decline(2, 0, 0) throws.IllegalStateException    // its delegate neither
                sign(2, 0, 1) 0
                decline(2, 0, 0) throws.IllegalStateException
                delegate(1, 2, 0, 9, 1) 2
                whyNot(2, 0, 0) 5
                decline(2, 0, 0) throws.IllegalStateException    // nor at the limit
                decline(1, 0, 0) 4
                """);
    }

    private static void promise10Cancel() {
        Sentence.holds("10: Voids an envelope that is sent", Beginnings.FIVE + """
                sign(1, 0, 4) 0
                sign(1, 0, 1) 0
                pass(5) 0
                cancel(0) 3
                state(0) VOIDED
                slotState(0, 4) SIGNED
                slotState(0, 1) SIGNED
                slotState(0, 0) CLOSED
                slotState(0, 2) CLOSED
                slotState(0, 3) CLOSED
                events(0) 4
                kindOf(0, 3) VOIDING
                personOf(0, 3) NONE
                dayOf(0, 3) 5
                """);
        Sentence.holds("10: Returns how many slots are closed by that", Beginnings.FIVE + "cancel(0) 5\n",
                Beginnings.sent(0, 1, 1) + "cancel(0) 1\n", Beginnings.sent(0, 1, 8) + "cancel(0) 8\n",
                Beginnings.sent(0, 1, 2) + "sign(1, 0, 1) 0\ncancel(0) 1\n");
        Sentence.holds("10: no other envelope is voided", Beginnings.sent(0, 1, 1) + Beginnings.sent(1, 1, 1) + """
                cancel(1) 1
                state(0) SENT
                slotState(0, 0) OPEN
                """);
    }

    private static void promise10Refuses() {
        Sentence.holds("10: IndexOutOfBoundsException if there is no such envelope",
                "cancel(0) throws.IndexOutOfBoundsException", Beginnings.SENT + """
                cancel(-1) throws.IndexOutOfBoundsException
                cancel(1) throws.IndexOutOfBoundsException
                cancel(6) throws.IndexOutOfBoundsException
                cancel(-2147483648) throws.IndexOutOfBoundsException
                cancel(2147483647) throws.IndexOutOfBoundsException
                """);
        Sentence.holds("10: IllegalStateException if it is not sent",
                Sentence.behindEach(Beginnings.NOT_SENT, "cancel(0) throws.IllegalStateException"));
    }

    private static void promise15ToSign() {
        Sentence.holds("15: Returns how many slots a person can sign now", Beginnings.FIVE + """
                toSign(1) 3
                toSign(0) 0
                sign(1, 0, 4) 0
                toSign(1) 2
                sign(1, 0, 0) 1
                toSign(1) 2
                sign(1, 0, 1) 1
                sign(1, 0, 2) 0
                sign(1, 0, 3) 0
                toSign(1) 0
                """);
        Sentence.holds("15: none in an envelope that is not sent",
                Sentence.behindEach(Beginnings.NOT_SENT, "toSign(1) 0"));
        StringBuilder sixFull = new StringBuilder();
        for (int e = 0; e < 6; e++) {
            sixFull.append(Beginnings.sent(e, 7, 8));
        }
        Sentence.holds("15: How many, in all envelopes, each by itself", sixFull + """
                toSign(7) 48
                sign(7, 5, 7) 0
                sign(7, 0, 0) 0
                toSign(7) 46
                cancel(3) 8
                toSign(7) 38
                toSign(0) 0
                """);
        Sentence.holds("15: IndexOutOfBoundsException if there is no such person", Beginnings.SENT + """
                toSign(-1) throws.IndexOutOfBoundsException
                toSign(8) throws.IndexOutOfBoundsException
                toSign(-2147483648) throws.IndexOutOfBoundsException
                toSign(2147483647) throws.IndexOutOfBoundsException
                toSign(0) 0
                toSign(7) 0
                """);
    }

    private static void promise15AsDelegate() {
        Sentence.holds("15: as the person of the slot or as delegate",
                Beginnings.sent(0, 1, 3) + Beginnings.sent(1, 2, 2) + Beginnings.sent(2, 3, 1) + """
                delegate(1, 2, 1, 1, 1) NONE
                delegate(3, 2, 1, 2, 1) NONE
                toSign(2) 2          // not yet as delegate
                pass(1) 0
                toSign(2) 6          // three of person 1 though the limit is 1: each by itself
                toSign(1) 3
                sign(2, 0, 1) 0
                toSign(2) 3          // the limit is reached
                toSign(1) 2
                pass(1) 0
                toSign(2) 3
                revoke(3) 2
                toSign(2) 2
                """);
    }
}
