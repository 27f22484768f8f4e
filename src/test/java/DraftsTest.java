/** Promises 1 to 6. */
public final class DraftsTest {
    public static void main(String[] args) {
        promise1NewObject();
        promise2Draft();
        promise3AddSlot();
        promise3AddSlotRefuses();
        promise4AddRound();
        promise4AddRoundRefuses();
        promise5SetTimes();
        promise5SetTimesRefuses();
        promise6Send();
        promise6SendRefuses();
        Check.end();
    }

    private static void promise1NewObject() {
        Signround desk = new Signround();
        Check.due("envelopes", desk.envelopes(), 0);
        Check.due("today", desk.today(), 0);
        for (int p = 0; p < 8; p++) {
            int person = p;
            Check.due("delegateToday", desk.delegateToday(p), Signround.NONE);
            Check.due("signedFor", desk.signedFor(p), 0);
            Check.due("toSign", desk.toSign(p), 0);
            Check.refuses("revoke on a new desk", desk, Check.STATE, () -> desk.revoke(person));
        }
        desk.draft();
        Check.due("envelopes of another desk", new Signround().envelopes(), 0);
    }

    private static void promise2Draft() {
        Signround desk = new Signround();
        for (int e = 0; e < 6; e++) {
            Check.due("draft", desk.draft(), e);
            Check.due("envelopes", desk.envelopes(), e + 1);
            Check.due("state", desk.state(e), Signround.DRAFT);
            Check.due("slots", desk.slots(e), 0);
            Check.due("events", desk.events(e), 0);
        }
        Check.refuses("a seventh draft", desk, Check.STATE, desk::draft);
    }

    private static void promise3AddSlot() {
        Signround desk = new Signround();
        desk.draft();
        desk.draft();
        Check.due("addSlot", desk.addSlot(1, 7, 0), 0);
        Check.due("addSlot", desk.addSlot(1, 0, 1), 1);
        Check.due("addSlot", desk.addSlot(1, 0, 3), 2);
        Check.due("addSlot", desk.addSlot(1, 3, 4), 3);
        Check.due("addSlot", desk.addSlot(1, 3, 0), 4);
        Check.due("slots of the other", desk.slots(0), 0);
        Check.due("slots", desk.slots(1), 5);
        Check.due("missing", desk.missing(1, 2), 2);
        Check.due("missing", desk.missing(1, 3), 1);
        Check.due("addSlot", desk.addSlot(1, 3, 31), 5);
        Check.due("addSlot", desk.addSlot(1, 3, 0), 6);
        Check.due("addSlot", desk.addSlot(1, 5, 127), 7);
        Check.due("missing", desk.missing(1, 7), 7);
        Check.due("send", desk.send(1), 3);
        Check.due("whyNot", desk.whyNot(7, 1, 0), 0);
        Check.due("whyNot", desk.whyNot(0, 1, 0), 4);
    }

    private static void promise3AddSlotRefuses() {
        Signround desk = new Signround();
        desk.draft();
        desk.addSlot(0, 1, 0);
        Check.refuses("no envelope", desk, Check.INDEX, () -> desk.addSlot(1, 1, 0));
        Check.refuses("envelope -1", desk, Check.INDEX, () -> desk.addSlot(-1, 1, 0));
        Check.refuses("envelope 6", desk, Check.INDEX, () -> desk.addSlot(6, 1, -1));
        Check.refuses("person 8", desk, Check.INDEX, () -> desk.addSlot(0, 8, 0));
        Check.refuses("person -1, before wrong too", desk, Check.INDEX, () -> desk.addSlot(0, -1, -1));
        Check.refuses("before below 0", desk, Check.ARGUMENT, () -> desk.addSlot(0, 1, -1));
        Check.refuses("before the least", desk, Check.ARGUMENT, () -> desk.addSlot(0, 1, Integer.MIN_VALUE));
        Check.refuses("before has itself", desk, Check.ARGUMENT, () -> desk.addSlot(0, 1, 2));
        Check.refuses("before has slot 8", desk, Check.ARGUMENT, () -> desk.addSlot(0, 1, 256));
        Check.refuses("before the greatest", desk, Check.ARGUMENT, () -> desk.addSlot(0, 1, Integer.MAX_VALUE));
        desk.send(0);
        Check.refuses("sent", desk, Check.STATE, () -> desk.addSlot(0, 1, 0));
        Check.refuses("sent, before wrong too", desk, Check.ARGUMENT, () -> desk.addSlot(0, 1, 2));
        desk.draft();
        desk.addRound(1, 255);
        Check.refuses("8 slots", desk, Check.STATE, () -> desk.addSlot(1, 1, 0));
        Check.refuses("8 slots, before all", desk, Check.STATE, () -> desk.addSlot(1, 1, 255));
        Check.refuses("8 slots, before wrong too", desk, Check.ARGUMENT, () -> desk.addSlot(1, 1, 256));
        Check.refuses("8 slots, person wrong too", desk, Check.INDEX, () -> desk.addSlot(1, 8, 0));
    }

    private static void promise4AddRound() {
        Signround desk = new Signround();
        desk.draft();
        Check.due("addRound", desk.addRound(0, 0b10100001), 3);
        Check.due("addRound", desk.addRound(0, 0b00100010), 5);
        Check.due("addRound", desk.addRound(0, 0b00000001), 6);
        int[] missing = {0, 0, 0, 3, 3, 5};
        int[] person = {0, 5, 7, 1, 5, 0};
        for (int s = 0; s < 6; s++) {
            Check.due("missing of " + s, desk.missing(0, s), missing[s]);
        }
        Check.due("send", desk.send(0), 3);
        for (int s = 0; s < 6; s++) {
            Check.due("sign " + s, desk.sign(person[s], 0, s), s == 2 ? 2 : s == 4 ? 1 : 0);
        }
        desk.draft();
        Check.due("addRound of all", desk.addRound(1, 255), 8);
        desk.draft();
        Check.due("addRound of one", desk.addRound(2, 1), 1);
    }

    private static void promise4AddRoundRefuses() {
        Signround desk = new Signround();
        desk.draft();
        Check.refuses("no envelope", desk, Check.INDEX, () -> desk.addRound(1, 1));
        Check.refuses("envelope -1, people wrong too", desk, Check.INDEX, () -> desk.addRound(-1, 0));
        Check.refuses("people 0", desk, Check.ARGUMENT, () -> desk.addRound(0, 0));
        Check.refuses("people 256", desk, Check.ARGUMENT, () -> desk.addRound(0, 256));
        Check.refuses("people -1", desk, Check.ARGUMENT, () -> desk.addRound(0, -1));
        Check.refuses("people the least", desk, Check.ARGUMENT, () -> desk.addRound(0, Integer.MIN_VALUE));
        desk.addRound(0, 0b1111);
        Check.refuses("9 slots", desk, Check.STATE, () -> desk.addRound(0, 0b11111));
        Check.due("addRound up to 8", desk.addRound(0, 0b1111), 8);
        Check.refuses("8 slots", desk, Check.STATE, () -> desk.addRound(0, 1));
        Check.refuses("8 slots, people wrong too", desk, Check.ARGUMENT, () -> desk.addRound(0, 0));
        desk.draft();
        desk.addRound(1, 1);
        desk.send(1);
        Check.refuses("sent", desk, Check.STATE, () -> desk.addRound(1, 1));
        Check.refuses("sent, people wrong too", desk, Check.ARGUMENT, () -> desk.addRound(1, 256));
    }

    private static void promise5SetTimes() {
        Signround desk = new Signround();
        for (int e = 0; e < 3; e++) {
            desk.draft();
            desk.addRound(e, 1);
        }
        desk.setTimes(0, 30, 60);
        desk.setTimes(1, 7, 9);
        desk.setTimes(1, 2, 3);
        desk.setTimes(2, 5, 4);
        desk.setTimes(2, 0, 0);
        for (int e = 0; e < 3; e++) {
            desk.send(e);
        }
        Check.due("nextReminder, pace 30", desk.nextReminder(0), 30);
        Check.due("nextReminder, pace 2", desk.nextReminder(1), 2);
        Check.due("nextReminder, no pace", desk.nextReminder(2), Signround.NONE);
        desk.pass(2);
        Check.due("state a day before the term 3", desk.state(1), Signround.SENT);
        desk.pass(1);
        Check.due("state at the term 3", desk.state(1), Signround.EXPIRED);
        desk.pass(56);
        Check.due("state a day before the term 60", desk.state(0), Signround.SENT);
        desk.pass(1);
        Check.due("state at the term 60", desk.state(0), Signround.EXPIRED);
        Check.due("state without a term", desk.state(2), Signround.SENT);
    }

    private static void promise5SetTimesRefuses() {
        Signround desk = new Signround();
        desk.draft();
        desk.addRound(0, 1);
        Check.refuses("no envelope", desk, Check.INDEX, () -> desk.setTimes(1, 1, 1));
        Check.refuses("envelope -1, pace wrong too", desk, Check.INDEX, () -> desk.setTimes(-1, -1, 1));
        Check.refuses("pace -1", desk, Check.ARGUMENT, () -> desk.setTimes(0, -1, 1));
        Check.refuses("pace 31", desk, Check.ARGUMENT, () -> desk.setTimes(0, 31, 1));
        Check.refuses("term -1", desk, Check.ARGUMENT, () -> desk.setTimes(0, 1, -1));
        Check.refuses("term 61", desk, Check.ARGUMENT, () -> desk.setTimes(0, 1, 61));
        desk.send(0);
        Check.due("nextReminder, nothing was set", desk.nextReminder(0), Signround.NONE);
        Check.refuses("sent", desk, Check.STATE, () -> desk.setTimes(0, 1, 1));
        Check.due("nextReminder of the sent one", desk.nextReminder(0), Signround.NONE);
        Check.refuses("sent, term wrong too", desk, Check.ARGUMENT, () -> desk.setTimes(0, 1, 61));
        desk.pass(2);
        Check.due("state", desk.state(0), Signround.SENT);
    }

    private static void promise6Send() {
        Signround desk = new Signround();
        desk.draft();
        desk.addSlot(0, 4, 0);
        desk.addSlot(0, 4, 1);
        desk.addSlot(0, 4, 0);
        desk.pass(3);
        Check.due("send", desk.send(0), 2);
        Check.due("state", desk.state(0), Signround.SENT);
        Check.due("slot without any before", desk.slotState(0, 0), Signround.OPEN);
        Check.due("slot with one before", desk.slotState(0, 1), Signround.WAITING);
        Check.due("slot without any before", desk.slotState(0, 2), Signround.OPEN);
        Check.due("events", desk.events(0), 1);
        Check.due("kindOf", desk.kindOf(0, 0), Signround.SENDING);
        Check.due("personOf", desk.personOf(0, 0), Signround.NONE);
        Check.due("dayOf", desk.dayOf(0, 0), 3);
    }

    private static void promise6SendRefuses() {
        Signround desk = new Signround();
        desk.draft();
        Check.refuses("no envelope", desk, Check.INDEX, () -> desk.send(1));
        Check.refuses("envelope -1", desk, Check.INDEX, () -> desk.send(-1));
        Check.refuses("no slots", desk, Check.STATE, () -> desk.send(0));
        desk.addRound(0, 1);
        desk.send(0);
        Check.refuses("sent", desk, Check.STATE, () -> desk.send(0));
        desk.sign(0, 0, 0);
        Check.refuses("completed", desk, Check.STATE, () -> desk.send(0));
    }
}
