/** Promises 16 to 18. */
public final class DaysTest {
    public static void main(String[] args) {
        promise16PassReminds();
        promise16PassRemindsFromTheOpening();
        promise16PassExpires();
        promise16PassRefuses();
        promise17Today();
        promise18NextReminder();
        promise18NextReminderWithoutAny();
        Check.end();
    }

    private static Signround sentDesk(int pace, int term, int people) {
        Signround desk = new Signround();
        desk.draft();
        desk.addRound(0, people);
        desk.setTimes(0, pace, term);
        desk.send(0);
        return desk;
    }

    private static void promise16PassReminds() {
        Signround desk = sentDesk(3, 0, 0b1010);
        Check.due("two days", desk.pass(2), 0);
        Check.due("the third", desk.pass(1), 2);
        Check.due("events", desk.events(0), 3);
        Check.due("kindOf", desk.kindOf(0, 1), Signround.REMINDER);
        Check.due("the first slot first", desk.personOf(0, 1), 1);
        Check.due("the second slot next", desk.personOf(0, 2), 3);
        Check.due("dayOf", desk.dayOf(0, 2), 3);
        Check.due("up to day 14", desk.pass(11), 6);
        Check.due("a fifth time", desk.pass(1), 2);
        Check.due("never a sixth time", desk.pass(60), 0);
        Check.due("events", desk.events(0), 11);
        Check.due("day of the last", desk.dayOf(0, 10), 15);
        Signround two = sentDesk(1, 0, 1);
        two.draft();
        two.addRound(1, 0b111);
        two.setTimes(1, 2, 0);
        two.send(1);
        two.draft();
        two.addRound(2, 255);
        two.setTimes(2, 1, 0);
        Check.due("in two envelopes, no draft", two.pass(2), 2 + 3);
        two.cancel(1);
        Check.due("voided", two.pass(2), 2);
        two.sign(0, 0, 0);
        Check.due("completed", two.pass(2), 0);
    }

    private static void promise16PassRemindsFromTheOpening() {
        Signround desk = new Signround();
        desk.draft();
        desk.addRound(0, 1);
        desk.addRound(0, 2);
        desk.setTimes(0, 2, 0);
        desk.pass(1);
        desk.send(0);
        Check.due("the first, on day 3", desk.pass(3), 1);
        desk.sign(0, 0, 0);
        Check.due("the second opened on day 4: not on 5", desk.pass(1), 0);
        Check.due("but on 6", desk.pass(1), 1);
        Check.due("personOf", desk.personOf(0, 3), 1);
        Check.due("each slot has five", desk.pass(60), 4);
    }

    private static void promise16PassExpires() {
        Signround desk = sentDesk(2, 4, 0b11);
        desk.sign(0, 0, 0);
        Check.due("reminders ahead of the term", desk.pass(3), 1);
        Check.due("no reminder at the term", desk.pass(1), 0);
        Check.due("state", desk.state(0), Signround.EXPIRED);
        Check.due("a signed slot", desk.slotState(0, 0), Signround.SIGNED);
        Check.due("an open slot", desk.slotState(0, 1), Signround.CLOSED);
        Check.due("events", desk.events(0), 4);
        Check.due("kindOf", desk.kindOf(0, 3), Signround.EXPIRING);
        Check.due("personOf", desk.personOf(0, 3), Signround.NONE);
        Check.due("dayOf", desk.dayOf(0, 3), 4);
        Check.due("nothing behind", desk.pass(10), 0);
        Check.due("events", desk.events(0), 4);
        Signround late = new Signround();
        late.draft();
        late.addRound(0, 1);
        late.setTimes(0, 0, 1);
        late.pass(5);
        late.send(0);
        Check.due("state", late.state(0), Signround.SENT);
        late.pass(60);
        Check.due("the term counts from the sending", late.dayOf(0, 1), 6);
    }

    private static void promise16PassRefuses() {
        Signround desk = sentDesk(1, 0, 1);
        Check.refuses("0", desk, Check.ARGUMENT, () -> desk.pass(0));
        Check.refuses("-1", desk, Check.ARGUMENT, () -> desk.pass(-1));
        Check.refuses("61", desk, Check.ARGUMENT, () -> desk.pass(61));
        Check.refuses("the greatest", desk, Check.ARGUMENT, () -> desk.pass(Integer.MAX_VALUE));
        Check.due("60", desk.pass(60), 5);
    }

    private static void promise17Today() {
        Signround desk = new Signround();
        Check.due("today", desk.today(), 0);
        desk.pass(1);
        Check.due("today", desk.today(), 1);
        desk.pass(60);
        Check.due("today", desk.today(), 61);
        for (int n = 0; n < 500; n++) {
            desk.pass(60);
        }
        Check.due("today", desk.today(), 30061);
    }

    private static void promise18NextReminder() {
        Signround desk = new Signround();
        desk.draft();
        desk.addRound(0, 0b11);
        desk.addRound(0, 0b100);
        desk.setTimes(0, 3, 2);
        desk.pass(1);
        desk.send(0);
        Check.due("whatever its term", desk.nextReminder(0), 4);
        Signround long_ = new Signround();
        long_.draft();
        long_.addRound(0, 0b1);
        long_.addRound(0, 0b110);
        long_.setTimes(0, 3, 0);
        long_.send(0);
        Check.due("a pace away", long_.nextReminder(0), 3);
        long_.pass(2);
        Check.due("a day away", long_.nextReminder(0), 3);
        long_.pass(1);
        Check.due("today's is behind", long_.nextReminder(0), 6);
        long_.pass(1);
        long_.sign(0, 0, 0);
        Check.due("from the day of the opening", long_.nextReminder(0), 7);
        long_.pass(14);
        Check.due("the fifth is to come", long_.nextReminder(0), 19);
        long_.pass(1);
        Check.due("none is to come", long_.nextReminder(0), Signround.NONE);
        Signround mixed = new Signround();
        mixed.draft();
        mixed.addSlot(0, 0, 0);
        mixed.addSlot(0, 1, 0);
        mixed.addSlot(0, 2, 2);
        mixed.setTimes(0, 5, 0);
        mixed.send(0);
        mixed.pass(2);
        mixed.sign(1, 0, 1);
        Check.due("the soonest of two", mixed.nextReminder(0), 5);
        mixed.pass(4);
        Check.due("the later slot's is the soonest", mixed.nextReminder(0), 7);
        mixed.pass(19);
        Check.due("the other has had five", mixed.nextReminder(0), 27);
    }

    private static void promise18NextReminderWithoutAny() {
        Signround desk = new Signround();
        Check.refuses("envelope 0", desk, Check.INDEX, () -> desk.nextReminder(0));
        Check.refuses("envelope -1", desk, Check.INDEX, () -> desk.nextReminder(-1));
        desk.draft();
        desk.addRound(0, 1);
        desk.setTimes(0, 1, 0);
        Check.due("a draft", desk.nextReminder(0), Signround.NONE);
        desk.send(0);
        Check.due("sent", desk.nextReminder(0), 1);
        desk.cancel(0);
        Check.due("voided", desk.nextReminder(0), Signround.NONE);
        Check.due("no pace", sentDesk(0, 5, 1).nextReminder(0), Signround.NONE);
        Signround signed = sentDesk(1, 0, 1);
        signed.sign(0, 0, 0);
        Check.due("completed", signed.nextReminder(0), Signround.NONE);
        Signround declined = sentDesk(1, 0, 1);
        declined.decline(0, 0, 0);
        Check.due("declined", declined.nextReminder(0), Signround.NONE);
        Signround expired = sentDesk(1, 1, 1);
        expired.pass(1);
        Check.due("expired", expired.nextReminder(0), Signround.NONE);
    }
}
