/** Promises 16 to 18, and what the document tells of days. */
public final class DaysTest {
    private static final String PASS_60 = "pass(60)\n";

    public static void main(String[] args) {
        daysNumbered();
        daysExpire();
        daysExpireInsteadOfReminding();
        daysRemind();
        daysRemindOfOpenSlots();
        daysRemindFiveTimes();
        promise16Pass();
        promise16Range();
        promise17Today();
        promise18NextReminder();
        promise18TheSoonest();
        promise18None();
        promise18NoSuchEnvelope();
        Check.end();
    }

    private static void daysNumbered() {
        Sentence.holds("Days: it is the day 0 at first; the number becomes 1 more", """
                today() 0
                pass(1) 0
                today() 1
                pass(1) 0
                today() 2
                """);
        Sentence.holds("Days: events have the day's number", Beginnings.sent(0, 0, 2) + """
                dayOf(0, 0) 0
                pass(60) 0
                sign(0, 0, 0) 0
                dayOf(0, 1) 60
                pass(1) 0
                decline(0, 0, 1) 1
                dayOf(0, 2) 61
                dayOf(0, 1) 60
                """);
    }

    private static void daysExpire() {
        Sentence.holds("Days: the day is its day of sending plus the term, it expires", Beginnings.timed(0, 1) + """
                state(0) SENT
                pass(1) 0
                state(0) EXPIRED
                dayOf(0, 1) 1
                """, Beginnings.timed(0, 60) + """
                pass(59) 0
                state(0) SENT
                pass(1) 0
                state(0) EXPIRED
                dayOf(0, 1) 60
                """, Beginnings.timed(0, 7) + """
                pass(60) 0           // in the midst of a longer call
                state(0) EXPIRED
                dayOf(0, 1) 7
                events(0) 2
                """);
        Sentence.holds("Days: the term counts from the sending", Beginnings.draft(0, 0, 1) + """
                setTimes(0, 0, 3)
                pass(5) 0
                state(0) DRAFT
                send(0) 1
                state(0) SENT
                pass(2) 0
                state(0) SENT
                pass(1) 0
                state(0) EXPIRED
                dayOf(0, 1) 8
                """);
        Sentence.holds("Days: not from the opening of a slot, nor from a signing", """
                draft() 0
                addSlot(0, 0, 0) 0
                addSlot(0, 0, 1) 1
                setTimes(0, 0, 3)
                send(0) 1
                pass(2) 0
                sign(0, 0, 0) 1
                pass(1) 0
                state(0) EXPIRED
                """);
        Sentence.holds("Days: without a term it does not expire", Beginnings.timed(0, 0) + """
                state(0) SENT
                pass(60) 0
                pass(60) 0
                state(0) SENT
                events(0) 1
                """);
        Sentence.holds("Days: each envelope that is sent, and no other",
                Beginnings.timed(0, 1) + Beginnings.draft(1, 0, 1) + "setTimes(1, 1, 1)\n"
                + Beginnings.draft(2, 0, 1) + "setTimes(2, 1, 1)\nsend(2) 1\nsign(0, 2, 0) 0\n"
                + Beginnings.draft(3, 0, 1) + "setTimes(3, 1, 1)\nsend(3) 1\ndecline(0, 3, 0) 1\n"
                + Beginnings.draft(4, 0, 1) + "setTimes(4, 1, 1)\nsend(4) 1\ncancel(4) 1\n"
                + Beginnings.draft(5, 0, 1) + "setTimes(5, 0, 1)\nsend(5) 1\n" + """
                pass(3) 0
                state(0) EXPIRED
                state(1) DRAFT
                events(1) 0
                state(2) COMPLETED
                events(2) 2
                state(3) DECLINED
                events(3) 2
                state(4) VOIDED
                events(4) 2
                state(5) EXPIRED
                events(5) 2
                """);
    }

    private static void daysExpireInsteadOfReminding() {
        Sentence.holds("Days: it expires; otherwise slots are reminded of", Beginnings.timed(2, 4) + """
                pass(3) 1
                pass(1) 0            // both are due
                state(0) EXPIRED
                events(0) 3
                kindOf(0, 2) EXPIRING
                pass(60) 0
                events(0) 3
                """, Beginnings.timed(1, 1) + """
                pass(1) 0
                events(0) 2
                kindOf(0, 1) EXPIRING
                """);
        Sentence.holds("Days: one envelope expires, another is reminded of",
                Beginnings.timed(1, 1) + Beginnings.draft(1, 0, 1) + "setTimes(1, 1, 0)\nsend(1) 1\n" + """
                pass(1) 1
                kindOf(0, 1) EXPIRING
                kindOf(1, 1) REMINDER
                """);
    }

    private static void daysRemind() {
        Sentence.holds("Days: plus once, twice, or any more times the pace", Beginnings.timed(3, 0) + """
                pass(1) 0
                pass(1) 0
                pass(1) 1            // once
                pass(1) 0
                pass(1) 0
                pass(1) 1            // twice
                pass(2) 0
                pass(1) 1
                pass(2) 0
                pass(1) 1
                pass(2) 0
                pass(1) 1            // five times
                """);
        Sentence.holds("Days: the least and the greatest pace", Beginnings.timed(1, 0) + """
                pass(1) 1
                pass(1) 1
                pass(1) 1
                """, Beginnings.timed(30, 0) + """
                pass(29) 0
                pass(1) 1
                pass(29) 0
                pass(1) 1
                dayOf(0, 2) 60
                """);
        Sentence.holds("Days: without a pace there is no reminder", Beginnings.timed(0, 0) + "pass(60) 0\nevents(0) 1\n",
                Beginnings.timed(0, 60) + "pass(59) 0\nevents(0) 1\n");
        Sentence.holds("Days: the day on which they became open, plus the pace", """
                draft() 0
                addSlot(0, 0, 0) 0
                addSlot(0, 1, 1) 1
                setTimes(0, 2, 0)
                pass(1) 0
                send(0) 1
                pass(3) 1            // the first slot, on day 3
                sign(0, 0, 0) 1      // the second opens on day 4
                pass(1) 0            // not on day 5
                pass(1) 1            // but on day 6
                dayOf(0, 3) 6
                personOf(0, 3) 1
                """);
        Sentence.holds("Days: by rising numbers", """
                draft() 0
                addRound(0, 0b10101) 3
                addSlot(0, 1, 0) 3
                setTimes(0, 1, 0)
                send(0) 4
                pass(2) 8
                personOf(0, 1) 0
                personOf(0, 2) 2
                personOf(0, 3) 4
                personOf(0, 4) 1
                dayOf(0, 4) 1
                personOf(0, 5) 0
                dayOf(0, 5) 2
                """);
    }

    private static void daysRemindOfOpenSlots() {
        Sentence.holds("Days: those of its slots that are open", Beginnings.FIVE.replace("send", "setTimes(0, 1, 0)\nsend") + """
                pass(1) 3            // 0, 1 and 4; 2 and 3 are waiting
                sign(1, 0, 0) 1
                sign(1, 0, 4) 0
                pass(1) 2            // 1 and 3
                sign(1, 0, 1) 1
                sign(1, 0, 2) 0
                pass(1) 1            // 3
                cancel(0) 1
                pass(1) 0
                """);
    }

    private static void daysRemindFiveTimes() {
        Sentence.holds("Days: have been reminded of fewer than 5 times", Beginnings.timed(2, 0) + """
                pass(8) 4
                pass(1) 0
                pass(1) 1            // the fifth time
                pass(1) 0
                pass(1) 0            // never a sixth
                pass(60) 0
                pass(60) 0
                events(0) 6
                dayOf(0, 5) 10
                """, Beginnings.timed(30, 0) + """
                pass(60) 2
                pass(60) 2
                pass(29) 0
                pass(1) 1
                pass(60) 0
                dayOf(0, 5) 150
                """);
        Sentence.holds("Days: each slot has its own five", """
                draft() 0
                addSlot(0, 0, 0) 0
                addSlot(0, 1, 0) 1
                addSlot(0, 2, 1) 2
                setTimes(0, 1, 0)
                send(0) 2
                pass(4) 8
                sign(0, 0, 0) 1
                pass(1) 2            // the fifth of slot 1, the first of slot 2
                pass(4) 4            // the other four of slot 2
                pass(60) 0
                """);
        Sentence.holds("Days: each envelope has its own", Beginnings.timed(1, 0)
                + Beginnings.draft(1, 0, 1) + "setTimes(1, 1, 0)\npass(5) 5\nsend(1) 1\npass(60) 5\n");
    }

    private static void promise16Pass() {
        Sentence.holds("16: Returns how many reminders there were", Beginnings.timed(1, 0)
                + Beginnings.draft(1, 0, 3) + "setTimes(1, 2, 0)\nsend(1) 3\n" + """
                pass(2) 5            // slot 0 on both days, three slots on the second
                pass(1) 1
                pass(1) 4
                """);
        Sentence.holds("16: none", "pass(60) 0\n", Beginnings.DRAFT + "setTimes(0, 1, 0)\npass(60) 0\n");
        StringBuilder sixFull = new StringBuilder();
        for (int e = 0; e < 6; e++) {
            sixFull.append(Beginnings.draft(e, e, 8)).append("setTimes(" + e + ", 12, 0)\nsend(" + e + ") 8\n");
        }
        Sentence.holds("16: as many as there can be", sixFull + """
                pass(59) 192
                pass(1) 48
                pass(60) 0
                """, sixFull + "pass(60) 240\nevents(5) 41\n");
    }

    private static void promise16Range() {
        Sentence.holds("16: days: 1 to 60; IllegalArgumentException if days is out of range", Beginnings.timed(1, 60) + """
                pass(0) throws.IllegalArgumentException
                pass(61) throws.IllegalArgumentException
                pass(-1) throws.IllegalArgumentException
                pass(-2147483648) throws.IllegalArgumentException
                pass(2147483647) throws.IllegalArgumentException
                today() 0
                pass(1) 1
                today() 1
                pass(60) 4
                today() 61
                """);
    }

    private static void promise17Today() {
        Sentence.holds("17: Returns the day", """
                today() 0
                pass(1) 0
                today() 1
                pass(60) 0
                today() 61
                """);
        Sentence.holds("17: the last day that there can be", PASS_60.repeat(511) + "today() 30660");
        Sentence.holds("17: late days go as the first ones", PASS_60.repeat(490) + """
                draft() 0
                addSlot(0, 0, 0) 0
                addSlot(0, 1, 0) 1
                setTimes(0, 4, 9)
                send(0) 2
                nextReminder(0) 29404
                delegate(0, 1, 29400, 29401, 1) NONE
                sign(1, 0, 0) 0
                pass(2) 0
                delegateToday(0) NONE
                signedFor(0) 0
                pass(2) 1
                dayOf(0, 2) 29404
                pass(5) 1
                state(0) EXPIRED
                dayOf(0, 4) 29409
                """);
    }

    private static void promise18NextReminder() {
        Sentence.holds("18: Returns the day of the next reminder of an envelope", Beginnings.timed(3, 0) + """
                nextReminder(0) 3
                pass(2) 0
                nextReminder(0) 3
                pass(1) 1
                nextReminder(0) 6    // today's is behind
                pass(1) 0
                nextReminder(0) 6
                pass(8) 3
                nextReminder(0) 15   // the fifth is to come
                pass(2) 0
                nextReminder(0) 15
                """, Beginnings.timed(1, 0) + """
                nextReminder(0) 1
                pass(1) 1
                nextReminder(0) 2
                """, Beginnings.timed(30, 0) + """
                nextReminder(0) 30
                pass(29) 0
                nextReminder(0) 30
                pass(1) 1
                nextReminder(0) 60
                """);
        Sentence.holds("18: whatever its term", Beginnings.timed(3, 2) + """
                nextReminder(0) 3
                pass(1) 0
                nextReminder(0) 3
                """, Beginnings.timed(3, 3) + """
                nextReminder(0) 3    // though it expires instead
                pass(2) 0
                nextReminder(0) 3
                """);
        Sentence.holds("18: from the day on which a slot became open", """
                draft() 0
                addSlot(0, 0, 0) 0
                addSlot(0, 1, 1) 1
                setTimes(0, 3, 0)
                pass(1) 0
                send(0) 1
                nextReminder(0) 4
                pass(1) 0
                sign(0, 0, 0) 1
                nextReminder(0) 5
                """);
    }

    private static void promise18TheSoonest() {
        Sentence.holds("18: the next one of all slots that are open", """
                draft() 0
                addSlot(0, 0, 0) 0
                addSlot(0, 1, 0) 1
                addSlot(0, 2, 2) 2
                setTimes(0, 5, 0)
                send(0) 2
                pass(2) 0
                sign(1, 0, 1) 1
                nextReminder(0) 5    // slot 0, ahead of slot 2
                pass(4) 1
                nextReminder(0) 7    // slot 2, ahead of slot 0
                sign(2, 0, 2) 0
                nextReminder(0) 10   // slot 0 alone
                """);
        Sentence.holds("18: without the slots that have had five", """
                draft() 0
                addSlot(0, 0, 0) 0
                addSlot(0, 1, 0) 1
                addSlot(0, 2, 2) 2
                setTimes(0, 5, 0)
                send(0) 2
                pass(2) 0
                sign(1, 0, 1) 1
                pass(23) 9           // five of slot 0, four of slot 2
                nextReminder(0) 27
                pass(2) 1
                nextReminder(0) NONE
                """);
        Sentence.holds("18: of this envelope", Beginnings.timed(7, 0) + Beginnings.draft(1, 0, 1) + """
                setTimes(1, 2, 0)
                send(1) 1
                nextReminder(0) 7
                nextReminder(1) 2
                """);
    }

    private static void promise18None() {
        String setTimes = "setTimes(0, 1, 1)\n";
        Sentence.holds("18: NONE if it is not sent", Beginnings.DRAFT + setTimes + "nextReminder(0) NONE\n");
        Sentence.holds("18: NONE when it ended", Beginnings.timed(1, 0) + "sign(0, 0, 0) 0\nnextReminder(0) NONE\n",
                Beginnings.timed(1, 0) + "decline(0, 0, 0) 1\nnextReminder(0) NONE\n",
                Beginnings.timed(1, 0) + "cancel(0) 1\nnextReminder(0) NONE\n",
                Beginnings.timed(2, 1) + "pass(1) 0\nnextReminder(0) NONE\n");
        Sentence.holds("18: NONE without a pace", Beginnings.timed(0, 0) + "nextReminder(0) NONE\n",
                Beginnings.timed(0, 5) + "nextReminder(0) NONE\n");
        Sentence.holds("18: NONE if there is none to come", Beginnings.timed(1, 0) + """
                pass(4) 4
                nextReminder(0) 5
                pass(1) 1
                nextReminder(0) NONE
                state(0) SENT
                """);
        Sentence.holds("18: a slot that opens then has reminders to come", """
                draft() 0
                addSlot(0, 0, 0) 0
                addSlot(0, 1, 1) 1
                setTimes(0, 1, 0)
                send(0) 1
                pass(9) 5
                nextReminder(0) NONE
                sign(0, 0, 0) 1
                nextReminder(0) 10
                """);
    }

    private static void promise18NoSuchEnvelope() {
        Sentence.holds("18: IndexOutOfBoundsException if there is no such envelope",
                "nextReminder(0) throws.IndexOutOfBoundsException", Beginnings.SENT + """
                nextReminder(-1) throws.IndexOutOfBoundsException
                nextReminder(1) throws.IndexOutOfBoundsException
                nextReminder(6) throws.IndexOutOfBoundsException
                nextReminder(-2147483648) throws.IndexOutOfBoundsException
                nextReminder(2147483647) throws.IndexOutOfBoundsException
                """);
    }
}
