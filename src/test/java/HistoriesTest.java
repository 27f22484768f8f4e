/** Promises 30 to 36, and what the document tells of histories. */
public final class HistoriesTest {
    /** Person 0 signs slot 0 on day 1, 5 signs slot 1 for 3 on day 2, slot 2 of 6 is reminded of on day 4; it is day 5. */
    private static final String STORY = """
            draft() 0
            addSlot(0, 0, 0) 0
            addSlot(0, 3, 0b1) 1
            addSlot(0, 6, 0b10) 2
            addSlot(0, 2, 0b100) 3
            setTimes(0, 2, 0)
            pass(1) 0
            send(0) 1
            sign(0, 0, 0) 1
            pass(1) 0
            delegate(3, 5, 2, 2, 1) NONE
            sign(5, 0, 1) 1
            pass(3) 1
            """;
    /** All 49 events that an envelope can have: a sending, five reminders of eight slots, eight signings. */
    private static final String FULL = """
            draft() 0
            addRound(0, 255) 8
            setTimes(0, 1, 0)
            send(0) 8
            pass(6) 40
            sign(0, 0, 0) 0
            sign(1, 0, 1) 0
            sign(2, 0, 2) 0
            sign(3, 0, 3) 0
            sign(4, 0, 4) 0
            sign(5, 0, 5) 0
            sign(6, 0, 6) 0
            """;

    /** Eight slots of person 1, each behind the one before, with a reminder a day. */
    private static final String CHAIN = """
            draft() 0
            addSlot(0, 1, 0) 0
            addSlot(0, 1, 1) 1
            addSlot(0, 1, 2) 2
            addSlot(0, 1, 4) 3
            addSlot(0, 1, 8) 4
            addSlot(0, 1, 16) 5
            addSlot(0, 1, 32) 6
            addSlot(0, 1, 64) 7
            setTimes(0, 1, 0)
            send(0) 1
            """;

    public static void main(String[] args) {
        eventOfEachKind();
        noEventOfItsOwn();
        promise30Events();
        promises31To33Events();
        promises31To33NoSuchEvent();
        promise34Seal();
        promise34SealOfEachKind();
        promise34Modulo();
        promise35StateBehind();
        promise35EachEnd();
        promise36OpenBehind();
        promise36NoneIfNotSent();
        promises34To36OutOfRange();
        Check.end();
    }

    private static void eventOfEachKind() {
        Sentence.holds("Histories: an event has a kind, a person, and a day; numbered from 0 as they come", STORY + """
                cancel(0) 2
                events(0) 5
                kindOf(0, 0) SENDING
                personOf(0, 0) NONE
                dayOf(0, 0) 1
                kindOf(0, 1) SIGNING
                personOf(0, 1) 0
                dayOf(0, 1) 1
                kindOf(0, 2) SIGNING_FOR
                personOf(0, 2) 5         // the delegate
                dayOf(0, 2) 2
                kindOf(0, 3) REMINDER
                personOf(0, 3) 6         // the person of the slot
                dayOf(0, 3) 4
                kindOf(0, 4) VOIDING
                personOf(0, 4) NONE
                dayOf(0, 4) 5
                """);
        Sentence.holds("Histories: declining, by the person who acts", STORY + """
                decline(6, 0, 2) 2
                events(0) 5
                kindOf(0, 4) DECLINING
                personOf(0, 4) 6
                dayOf(0, 4) 5
                """);
        Sentence.holds("Histories: expiring, by nobody", Beginnings.EXPIRED + """
                events(0) 2
                kindOf(0, 1) EXPIRING
                personOf(0, 1) NONE
                dayOf(0, 1) 1
                """);
        Sentence.holds("Histories: with a reminder the person of the slot, also when it has a delegate", Beginnings.timed(1, 0) + """
                delegate(0, 4, 0, 9, 9) NONE
                pass(1) 1
                personOf(0, 1) 0
                """);
        Sentence.holds("Histories: each envelope has its own", STORY + """
                draft() 1
                addSlot(1, 0, 0) 0
                events(1) 0
                send(1) 1
                events(1) 1
                dayOf(1, 0) 5
                events(0) 4
                decline(0, 1, 0) 1
                kindOf(1, 1) DECLINING
                events(0) 4
                """);
    }

    private static void noEventOfItsOwn() {
        Sentence.holds("Histories: A completed envelope has no event of its own for that", Beginnings.COMPLETED + """
                events(0) 3
                kindOf(0, 2) SIGNING
                kindOf(0, 3) throws.IndexOutOfBoundsException
                """);
        Sentence.holds("Histories: no other call is an event", Beginnings.DRAFT + """
                setTimes(0, 30, 60)
                events(0) 0
                send(0) 2
                pass(29) 0
                delegate(1, 2, 29, 29, 1) NONE
                revoke(1) 2
                cancel(1) throws.IndexOutOfBoundsException
                sign(2, 0, 0) throws.IllegalStateException
                events(0) 1
                """);
    }

    private static void promise30Events() {
        Sentence.holds("30: Returns how many events an envelope has", """
                draft() 0
                events(0) 0
                addSlot(0, 0, 0) 0
                addSlot(0, 1, 0) 1
                setTimes(0, 1, 0)
                events(0) 0
                send(0) 2
                events(0) 1
                sign(0, 0, 0) 0
                events(0) 2
                pass(1) 1
                events(0) 3
                decline(1, 0, 1) 1
                events(0) 4
                """);
        Sentence.holds("30: as many as there can be", FULL + """
                events(0) 48
                sign(7, 0, 7) 0
                events(0) 49
                kindOf(0, 40) REMINDER
                personOf(0, 40) 7
                dayOf(0, 40) 5
                kindOf(0, 41) SIGNING
                kindOf(0, 48) SIGNING
                personOf(0, 48) 7
                dayOf(0, 48) 6
                kindOf(0, 49) throws.IndexOutOfBoundsException
                stateBehind(0, 48) SENT
                stateBehind(0, 49) COMPLETED
                openBehind(0, 48) 0b10000000
                openBehind(0, 49) 0
                """, FULL + """
                cancel(0) 1
                events(0) 49
                kindOf(0, 48) VOIDING
                personOf(0, 48) NONE
                stateBehind(0, 49) VOIDED
                """);
        Sentence.holds("30: as many as there can be, reminders up to the last but one", CHAIN + """
                pass(6) 5
                sign(1, 0, 0) 1
                pass(6) 5
                sign(1, 0, 1) 1
                pass(6) 5
                sign(1, 0, 2) 1
                pass(6) 5
                sign(1, 0, 3) 1
                pass(6) 5
                sign(1, 0, 4) 1
                pass(6) 5
                sign(1, 0, 5) 1
                pass(6) 5
                sign(1, 0, 6) 1
                pass(4) 4
                nextReminder(0) 47
                pass(2) 1
                events(0) 48
                kindOf(0, 47) REMINDER
                dayOf(0, 47) 47
                sign(1, 0, 7) 0
                events(0) 49
                stateBehind(0, 49) COMPLETED
                """);
        Sentence.holds("30: IndexOutOfBoundsException if there is no such envelope", "events(0) throws.IndexOutOfBoundsException",
                STORY + """
                events(-1) throws.IndexOutOfBoundsException
                events(1) throws.IndexOutOfBoundsException
                events(6) throws.IndexOutOfBoundsException
                events(-2147483648) throws.IndexOutOfBoundsException
                events(2147483647) throws.IndexOutOfBoundsException
                """);
    }

    private static void promises31To33Events() {
        Sentence.holds("31: Returns SENDING to REMINDER", STORY + """
                kindOf(0, 0) 0
                kindOf(0, 1) 1
                kindOf(0, 2) 2
                kindOf(0, 3) 6
                """);
        Sentence.holds("32: Returns the person, 0 to 7; NONE if it has none", """
                draft() 0
                addSlot(0, 0, 0) 0
                addSlot(0, 7, 0) 1
                send(0) 2
                sign(7, 0, 1) 0
                delegate(0, 7, 0, 0, 1) NONE
                sign(7, 0, 0) 0
                personOf(0, 0) NONE
                personOf(0, 1) 7
                personOf(0, 2) 7
                draft() 1
                addSlot(1, 0, 0) 0
                send(1) 1
                sign(0, 1, 0) 0
                personOf(1, 1) 0
                """);
        Sentence.holds("33: Returns the day, 0 and later ones", Beginnings.sent(0, 1, 1) + "pass(60)\n".repeat(480) + """
                sign(1, 0, 0) 0
                dayOf(0, 0) 0
                dayOf(0, 1) 28800
                """);
    }

    private static void promises31To33NoSuchEvent() {
        for (String call : new String[] {"31: kindOf", "32: personOf", "33: dayOf"}) {
            String line = call.substring(4) + "(%d, %d) throws.IndexOutOfBoundsException\n";
            Sentence.holds(call + " throws IndexOutOfBoundsException if there is no such envelope or event",
                    line.formatted(0, 0), Beginnings.DRAFT + line.formatted(0, 0) + line.formatted(0, -1),
                    STORY + line.formatted(0, -1) + line.formatted(0, 4) + line.formatted(0, 49)
                    + line.formatted(0, Integer.MIN_VALUE) + line.formatted(0, Integer.MAX_VALUE)
                    + line.formatted(-1, 0) + line.formatted(1, 0) + line.formatted(6, 0)
                    + line.formatted(Integer.MIN_VALUE, 0) + line.formatted(Integer.MAX_VALUE, 0)
                    + call.substring(4) + "(0, 0)\n" + call.substring(4) + "(0, 3)\n");
        }
    }

    private static void promise34Seal() {
        Sentence.holds("34: The seal of no events is 1", STORY + "seal(0, 0) 1\n", "draft() 0\nseal(0, 0) 1\n");
        Sentence.holds("34: of the first events, 0 up to all", STORY + """
                seal(0, 1) 48            // 31*1 + 7*0 + 11*0 + 13*0 + 17*1: NONE adds 0
                seal(0, 2) 1536          // 31*48 + 7*1 + 11*1 + 13*1 + 17*1
                seal(0, 3) 47756         // 31*1536 + 7*2 + 11*6 + 13*2 + 17*2: the delegate
                seal(0, 4) 39200         // 31*47756 + 7*6 + 11*7 + 13*3 + 17*4
                cancel(0) 2
                seal(0, 5) 35935         // 31*39200 + 7*4 + 0 + 0 + 17*5
                seal(0, 4) 39200
                seal(0, 1) 48
                """);
    }

    private static void promise34SealOfEachKind() {
        String last = "draft() 0\naddRound(0, 255) 8\nsend(0) 8\nseal(0, 1) 31\n";
        Sentence.holds("34: SIGNING of the first and of the last person and slot", last + """
                sign(0, 0, 0) 0
                seal(0, 2) 992           // 31*31 + 7 + 11 + 13
                """, last + """
                sign(7, 0, 7) 0
                seal(0, 2) 1160          // 31*31 + 7 + 88 + 104
                """);
        Sentence.holds("34: SIGNING_FOR", Beginnings.timed(0, 0) + """
                delegate(0, 7, 0, 0, 1) NONE
                sign(7, 0, 0) 0
                seal(0, 2) 1076          // 31*31 + 14 + 88 + 13
                """);
        Sentence.holds("34: DECLINING", last + """
                decline(0, 0, 0) 8
                seal(0, 2) 1006          // 31*31 + 21 + 11 + 13
                """, last + """
                decline(7, 0, 7) 8
                seal(0, 2) 1174          // 31*31 + 21 + 88 + 104
                """);
        Sentence.holds("34: VOIDING", last + """
                cancel(0) 8
                seal(0, 2) 989           // 31*31 + 28
                """);
        Sentence.holds("34: EXPIRING", Beginnings.timed(0, 1) + """
                pass(1) 0
                seal(0, 2) 1013          // 31*31 + 35 + 17
                """);
        Sentence.holds("34: REMINDER", Beginnings.timed(1, 0) + """
                pass(1) 1
                seal(0, 2) 1044          // 31*31 + 42 + 11 + 13 + 17
                """);
    }

    private static void promise34Modulo() {
        String to3852 = Beginnings.draft(0, 0, 1) + "pass(60)\n".repeat(64);
        Sentence.holds("34: modulo 65521: the last below it and the first above it", to3852 + """
                pass(12) 0
                send(0) 1
                seal(0, 1) 65515         // 31 + 17*3852
                """, to3852 + """
                pass(13) 0
                send(0) 1
                seal(0, 1) 11            // 31 + 17*3853 - 65521
                """);
        Sentence.holds("34: the greatest seal", Beginnings.draft(0, 3, 1) + "pass(60)\n".repeat(3) + """
                pass(59) 0
                send(0) 1
                sign(3, 0, 0) 0
                seal(0, 2) 65520
                """);
        Sentence.holds("34: the least seal", Beginnings.draft(0, 1, 7) + "pass(60)\n".repeat(18) + """
                pass(2) 0
                send(0) 7
                sign(1, 0, 6) 0
                seal(0, 2) 0
                cancel(0) 6
                seal(0, 3) 18422         // 28 + 17*1082
                """);
        Sentence.holds("34: of late days", Beginnings.draft(0, 0, 1) + "pass(60)\n".repeat(500) + """
                send(0) 1
                seal(0, 1) 51384         // 31 + 17*30000 - 7*65521
                """);
        Sentence.holds("34: of as many events as there can be", FULL + """
                sign(7, 0, 7) 0
                seal(0, 7) 59658
                seal(0, 41) 37055
                seal(0, 49) 22864
                """);
    }

    private static void promise35StateBehind() {
        Sentence.holds("35: DRAFT behind none", Sentence.behindEach(Beginnings.EACH_STATE, "stateBehind(0, 0) DRAFT\n"));
        Sentence.holds("35: DRAFT behind none, without slots", "draft() 0\nstateBehind(0, 0) DRAFT\n");
        Sentence.holds("35: SENT behind all of these", STORY + """
                stateBehind(0, 1) SENT
                stateBehind(0, 2) SENT
                stateBehind(0, 3) SENT
                stateBehind(0, 4) SENT
                """);
        Sentence.holds("35: told from how many slots it has", STORY + """
                sign(6, 0, 2) 1
                stateBehind(0, 5) SENT       // one of four is left
                sign(2, 0, 3) 0
                stateBehind(0, 6) COMPLETED
                stateBehind(0, 5) SENT
                """, Beginnings.sent(0, 1, 1) + """
                sign(1, 0, 0) 0
                stateBehind(0, 1) SENT
                stateBehind(0, 2) COMPLETED
                """);
        Sentence.holds("35: reminders are no signings", Beginnings.DRAFT + """
                setTimes(0, 1, 0)
                send(0) 2
                pass(2) 4
                stateBehind(0, 2) SENT
                stateBehind(0, 5) SENT
                sign(1, 0, 0) 0
                stateBehind(0, 6) SENT
                sign(1, 0, 1) 0
                stateBehind(0, 7) COMPLETED
                """);
        Sentence.holds("35: what a delegate signs counts as well", Beginnings.SENT + """
                delegate(1, 2, 0, 0, 1) NONE
                sign(2, 0, 0) 0
                sign(1, 0, 1) 0
                stateBehind(0, 2) SENT
                stateBehind(0, 3) COMPLETED
                """, Beginnings.SENT + """
                delegate(1, 2, 0, 0, 1) NONE
                sign(1, 0, 0) 0
                sign(2, 0, 1) 0          // the delegate signs the last one
                stateBehind(0, 2) SENT
                stateBehind(0, 3) COMPLETED
                openBehind(0, 3) 0
                """);
    }

    private static void promise35EachEnd() {
        Sentence.holds("35: declined", Beginnings.DECLINED + "stateBehind(0, 1) SENT\nstateBehind(0, 2) DECLINED\n");
        Sentence.holds("35: voided", Beginnings.VOIDED + "stateBehind(0, 1) SENT\nstateBehind(0, 2) VOIDED\n");
        Sentence.holds("35: expired", Beginnings.EXPIRED + "stateBehind(0, 1) SENT\nstateBehind(0, 2) EXPIRED\n");
        Sentence.holds("35: all but one signed, and declined", Beginnings.SENT + """
                sign(1, 0, 0) 0
                decline(1, 0, 1) 1
                stateBehind(0, 2) SENT
                stateBehind(0, 3) DECLINED
                """);
    }

    private static void promise36OpenBehind() {
        Sentence.holds("36: Returns the slots of an envelope that were open behind its first events", """
                draft() 0
                addSlot(0, 0, 0) 0
                addSlot(0, 0, 0) 1
                addSlot(0, 0, 0b11) 2
                addSlot(0, 0, 0b1) 3
                setTimes(0, 1, 0)
                send(0) 2
                sign(0, 0, 0) 1
                pass(1) 2
                delegate(0, 1, 1, 1, 1) NONE
                sign(1, 0, 1) 1
                sign(0, 0, 3) 0
                sign(0, 0, 2) 0
                openBehind(0, 0) 0
                openBehind(0, 1) 0b0011
                openBehind(0, 2) 0b1010
                openBehind(0, 3) 0b1010      // a reminder
                openBehind(0, 4) 0b1010
                openBehind(0, 5) 0b1100      // signed by the delegate
                openBehind(0, 6) 0b0100
                openBehind(0, 7) 0
                """);
        Sentence.holds("36: each slot counts 2 to the power of its number", """
                draft() 0
                addRound(0, 255) 8
                send(0) 8
                openBehind(0, 1) 255
                sign(7, 0, 7) 0
                openBehind(0, 2) 127
                sign(0, 0, 0) 0
                openBehind(0, 3) 126
                openBehind(0, 1) 255
                """);
    }

    private static void promise36NoneIfNotSent() {
        Sentence.holds("36: none if it was not sent then: behind no events",
                Sentence.behindEach(Beginnings.EACH_STATE, "openBehind(0, 0) 0\n"));
        Sentence.holds("36: none if it was not sent then: without slots", "draft() 0\nopenBehind(0, 0) 0\n");
        for (String ended : new String[] {Beginnings.DECLINED, Beginnings.VOIDED, Beginnings.EXPIRED}) {
            Sentence.holds("36: none if it was not sent then: behind its end", ended + """
                    openBehind(0, 1) 0b11
                    openBehind(0, 2) 0
                    """);
        }
        Sentence.holds("36: none if it was not sent then: completed", Beginnings.COMPLETED + """
                openBehind(0, 1) 0b11
                openBehind(0, 2) 0b10
                openBehind(0, 3) 0
                """);
    }

    private static void promises34To36OutOfRange() {
        for (String call : new String[] {"34: seal", "35: stateBehind", "36: openBehind"}) {
            String asked = call.substring(4);
            String line = asked + "(%d, %d) throws.IndexOutOfBoundsException\n";
            Sentence.holds(call + " throws IndexOutOfBoundsException if there is no such envelope",
                    line.formatted(0, 0), STORY + line.formatted(-1, 0) + line.formatted(1, 0) + line.formatted(6, 0)
                    + line.formatted(Integer.MIN_VALUE, 0) + line.formatted(Integer.MAX_VALUE, 0));
            Sentence.holds(call + " throws IndexOutOfBoundsException if events is out of range",
                    STORY + line.formatted(0, -1) + line.formatted(0, 5) + line.formatted(0, 49) + line.formatted(0, 50)
                    + line.formatted(0, Integer.MIN_VALUE) + line.formatted(0, Integer.MAX_VALUE)
                    + asked + "(0, 0)\n" + asked + "(0, 4)\n",
                    "draft() 0\n" + line.formatted(0, -1) + line.formatted(0, 1) + asked + "(0, 0)\n",
                    FULL + "sign(7, 0, 7) 0\n" + line.formatted(0, 50) + asked + "(0, 49)\n");
        }
    }
}
