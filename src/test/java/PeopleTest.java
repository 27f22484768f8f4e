/** Promises 7 to 15. */
public final class PeopleTest {
    public static void main(String[] args) {
        promise7Sign();
        promise7SignAsDelegate();
        promise7SignRefuses();
        promise8WhyNot();
        promise8WhyNotAsDelegate();
        promise8WhyNotRefuses();
        promise9Decline();
        promise9DeclineRefuses();
        promise10Cancel();
        promise10CancelRefuses();
        promise11Delegate();
        promise11DelegateRefuses();
        promise12Revoke();
        promise13DelegateToday();
        promise14SignedFor();
        promise15ToSign();
        Check.end();
    }

    /** A sent envelope 0 with five slots of person 1: 0 and 1 first, 2 behind both, 3 behind 0, 4 free. */
    private static Signround sentDesk() {
        Signround desk = new Signround();
        desk.draft();
        desk.addSlot(0, 1, 0);
        desk.addSlot(0, 1, 0);
        desk.addSlot(0, 1, 3);
        desk.addSlot(0, 1, 1);
        desk.addSlot(0, 1, 0);
        desk.send(0);
        return desk;
    }

    private static void promise7Sign() {
        Signround desk = sentDesk();
        Check.due("sign 4", desk.sign(1, 0, 4), 0);
        Check.due("sign 0", desk.sign(1, 0, 0), 1);
        Check.due("slot 3 opens", desk.slotState(0, 3), Signround.OPEN);
        Check.due("slot 2 waits", desk.slotState(0, 2), Signround.WAITING);
        Check.due("sign 1", desk.sign(1, 0, 1), 1);
        Check.due("slot 2 opens", desk.slotState(0, 2), Signround.OPEN);
        Check.due("sign 2", desk.sign(1, 0, 2), 0);
        Check.due("state with one left", desk.state(0), Signround.SENT);
        Check.due("sign 3", desk.sign(1, 0, 3), 0);
        Check.due("state with none left", desk.state(0), Signround.COMPLETED);
        Check.due("events: no own one for completion", desk.events(0), 6);
        Check.due("kindOf", desk.kindOf(0, 5), Signround.SIGNING);
        Check.due("personOf", desk.personOf(0, 5), 1);
        for (int s = 0; s < 5; s++) {
            Check.due("slotState", desk.slotState(0, s), Signround.SIGNED);
        }
    }

    private static void promise7SignAsDelegate() {
        Signround desk = sentDesk();
        desk.delegate(1, 6, 0, 0, 1);
        Check.due("sign as the delegate", desk.sign(6, 0, 0), 1);
        Check.due("kindOf", desk.kindOf(0, 1), Signround.SIGNING_FOR);
        Check.due("personOf", desk.personOf(0, 1), 6);
        Check.due("signedFor the person", desk.signedFor(1), 1);
        Check.due("signedFor the delegate", desk.signedFor(6), 0);
        Check.refuses("the limit is reached", desk, Check.STATE, () -> desk.sign(6, 0, 1));
        Check.due("the person may go on", desk.sign(1, 0, 1), 1);
        Check.due("signedFor counts the delegate alone", desk.signedFor(1), 1);
    }

    private static void promise7SignRefuses() {
        Signround desk = sentDesk();
        desk.draft();
        desk.addRound(1, 2);
        Check.refuses("person -1", desk, Check.INDEX, () -> desk.sign(-1, 0, 0));
        Check.refuses("person 8", desk, Check.INDEX, () -> desk.sign(8, 0, 0));
        Check.refuses("envelope -1", desk, Check.INDEX, () -> desk.sign(1, -1, 0));
        Check.refuses("envelope 2", desk, Check.INDEX, () -> desk.sign(1, 2, 0));
        Check.refuses("slot -1", desk, Check.INDEX, () -> desk.sign(1, 0, -1));
        Check.refuses("slot 5", desk, Check.INDEX, () -> desk.sign(1, 0, 5));
        Check.refuses("slot 1 of a draft with 1", desk, Check.INDEX, () -> desk.sign(1, 1, 1));
        Check.refuses("a draft", desk, Check.STATE, () -> desk.sign(1, 1, 0));
        Check.refuses("a waiting slot", desk, Check.STATE, () -> desk.sign(1, 0, 2));
        Check.refuses("another person", desk, Check.STATE, () -> desk.sign(2, 0, 0));
        desk.sign(1, 0, 0);
        Check.refuses("a signed slot", desk, Check.STATE, () -> desk.sign(1, 0, 0));
        desk.cancel(0);
        Check.refuses("a closed slot", desk, Check.STATE, () -> desk.sign(1, 0, 1));
    }

    private static void promise8WhyNot() {
        Signround desk = new Signround();
        desk.draft();
        desk.addSlot(0, 1, 0);
        desk.addSlot(0, 2, 1);
        Check.due("the person, not sent", desk.whyNot(1, 0, 0), 2);
        Check.due("another, not sent", desk.whyNot(3, 0, 1), 2);
        desk.send(0);
        Check.due("the person", desk.whyNot(1, 0, 0), 0);
        Check.due("another", desk.whyNot(2, 0, 0), 4);
        Check.due("the person, waiting", desk.whyNot(2, 0, 1), 3);
        Check.due("another, waiting", desk.whyNot(1, 0, 1), 3);
        desk.sign(1, 0, 0);
        Check.due("the person, signed", desk.whyNot(1, 0, 0), 3);
        Check.due("the person of the next", desk.whyNot(2, 0, 1), 0);
        desk.sign(2, 0, 1);
        Check.due("completed", desk.whyNot(2, 0, 1), 2);
    }

    private static void promise8WhyNotAsDelegate() {
        Signround desk = sentDesk();
        desk.delegate(1, 3, 1, 2, 2);
        Check.due("before the first day", desk.whyNot(3, 0, 0), 4);
        desk.pass(1);
        Check.due("on the first day", desk.whyNot(3, 0, 0), 1);
        Check.due("a waiting slot", desk.whyNot(3, 0, 2), 3);
        Check.due("the person still may", desk.whyNot(1, 0, 0), 0);
        Check.due("another still may not", desk.whyNot(4, 0, 0), 4);
        desk.sign(3, 0, 0);
        Check.due("one of two", desk.whyNot(3, 0, 1), 1);
        desk.sign(3, 0, 1);
        Check.due("two of two", desk.whyNot(3, 0, 2), 5);
        Check.due("another, at the limit", desk.whyNot(4, 0, 2), 4);
        Check.due("the person, at the limit", desk.whyNot(1, 0, 2), 0);
        desk.delegate(1, 4, 1, 9, 1);
        Check.due("another delegate with a lower limit", desk.whyNot(4, 0, 2), 5);
        Check.due("the delegate before", desk.whyNot(3, 0, 2), 4);
        desk.delegate(1, 4, 1, 2, 3);
        Check.due("a greater limit", desk.whyNot(4, 0, 2), 1);
        desk.delegate(4, 5, 1, 2, 3);
        Check.due("a delegate's delegate", desk.whyNot(5, 0, 2), 4);
        desk.pass(1);
        Check.due("on the last day", desk.whyNot(4, 0, 2), 1);
        desk.pass(1);
        Check.due("behind the last day", desk.whyNot(4, 0, 2), 4);
    }

    private static void promise8WhyNotRefuses() {
        Signround desk = sentDesk();
        Check.refuses("person -1", desk, Check.INDEX, () -> desk.whyNot(-1, 0, 0));
        Check.refuses("person 8", desk, Check.INDEX, () -> desk.whyNot(8, 0, 0));
        Check.refuses("envelope -1", desk, Check.INDEX, () -> desk.whyNot(1, -1, 0));
        Check.refuses("envelope 1", desk, Check.INDEX, () -> desk.whyNot(1, 1, 0));
        Check.refuses("slot -1", desk, Check.INDEX, () -> desk.whyNot(1, 0, -1));
        Check.refuses("slot 5", desk, Check.INDEX, () -> desk.whyNot(1, 0, 5));
    }

    private static void promise9Decline() {
        Signround desk = sentDesk();
        desk.sign(1, 0, 0);
        desk.pass(2);
        Check.due("decline", desk.decline(1, 0, 3), 4);
        Check.due("state", desk.state(0), Signround.DECLINED);
        Check.due("the signed slot stays", desk.slotState(0, 0), Signround.SIGNED);
        for (int s = 1; s < 5; s++) {
            Check.due("slotState", desk.slotState(0, s), Signround.CLOSED);
        }
        Check.due("kindOf", desk.kindOf(0, 2), Signround.DECLINING);
        Check.due("personOf", desk.personOf(0, 2), 1);
        Check.due("dayOf", desk.dayOf(0, 2), 2);
        // The slot 3 stands in the seal: 7*3 + 11*2 + 13*4 + 17*2.
        Check.due("seal", desk.seal(0, 3), (31 * desk.seal(0, 2) + 21 + 22 + 52 + 34) % 65521);
    }

    private static void promise9DeclineRefuses() {
        Signround desk = sentDesk();
        desk.draft();
        desk.addRound(1, 2);
        desk.delegate(1, 2, 0, 9, 9);
        Check.refuses("person 8", desk, Check.INDEX, () -> desk.decline(8, 0, 0));
        Check.refuses("person -1", desk, Check.INDEX, () -> desk.decline(-1, 0, 0));
        Check.refuses("envelope 2", desk, Check.INDEX, () -> desk.decline(1, 2, 0));
        Check.refuses("envelope -1", desk, Check.INDEX, () -> desk.decline(1, -1, 0));
        Check.refuses("slot 5", desk, Check.INDEX, () -> desk.decline(1, 0, 5));
        Check.refuses("slot -1", desk, Check.INDEX, () -> desk.decline(1, 0, -1));
        Check.refuses("slot 1 of a draft with 1", desk, Check.INDEX, () -> desk.decline(1, 1, 1));
        Check.refuses("a draft", desk, Check.STATE, () -> desk.decline(1, 1, 0));
        Check.refuses("a waiting slot", desk, Check.STATE, () -> desk.decline(1, 0, 2));
        Check.refuses("another person", desk, Check.STATE, () -> desk.decline(3, 0, 0));
        Check.refuses("the delegate", desk, Check.STATE, () -> desk.decline(2, 0, 0));
        desk.sign(1, 0, 0);
        Check.refuses("a signed slot", desk, Check.STATE, () -> desk.decline(1, 0, 0));
        desk.decline(1, 0, 1);
        Check.refuses("a declined envelope", desk, Check.STATE, () -> desk.decline(1, 0, 4));
    }

    private static void promise10Cancel() {
        Signround desk = sentDesk();
        desk.sign(1, 0, 4);
        desk.sign(1, 0, 1);
        desk.pass(5);
        Check.due("cancel", desk.cancel(0), 3);
        Check.due("state", desk.state(0), Signround.VOIDED);
        Check.due("a signed slot", desk.slotState(0, 4), Signround.SIGNED);
        Check.due("an open slot", desk.slotState(0, 0), Signround.CLOSED);
        Check.due("a waiting slot", desk.slotState(0, 2), Signround.CLOSED);
        Check.due("kindOf", desk.kindOf(0, 3), Signround.VOIDING);
        Check.due("personOf", desk.personOf(0, 3), Signround.NONE);
        Check.due("dayOf", desk.dayOf(0, 3), 5);
    }

    private static void promise10CancelRefuses() {
        Signround desk = new Signround();
        desk.draft();
        desk.addRound(0, 1);
        Check.refuses("envelope 1", desk, Check.INDEX, () -> desk.cancel(1));
        Check.refuses("envelope -1", desk, Check.INDEX, () -> desk.cancel(-1));
        Check.refuses("a draft", desk, Check.STATE, () -> desk.cancel(0));
        desk.send(0);
        desk.sign(0, 0, 0);
        Check.refuses("completed", desk, Check.STATE, () -> desk.cancel(0));
        desk.draft();
        desk.addRound(1, 1);
        desk.send(1);
        desk.cancel(1);
        Check.refuses("voided", desk, Check.STATE, () -> desk.cancel(1));
    }

    private static void promise11Delegate() {
        Signround desk = new Signround();
        Check.due("the first delegate", desk.delegate(1, 2, 0, 0, 1), Signround.NONE);
        Check.due("delegateToday", desk.delegateToday(1), 2);
        Check.due("of the delegate", desk.delegateToday(2), Signround.NONE);
        Check.due("replaced", desk.delegate(1, 3, 4, 5, 9), 2);
        Check.due("not today", desk.delegateToday(1), Signround.NONE);
        Check.due("replaced, for later days", desk.delegate(1, 7, 0, Integer.MAX_VALUE, 1), 3);
        desk.pass(1);
        Check.due("the last of days", desk.delegateToday(1), 7);
        desk.delegate(1, 0, 1, 1, 1);
        desk.pass(1);
        Check.due("replaced, for days gone by", desk.delegate(1, 2, 2, 2, 1), 0);
        Check.due("each for the other", desk.delegate(2, 1, 2, 2, 1), Signround.NONE);
        Check.due("each for the other", desk.delegateToday(2), 1);
        Check.due("each for the other", desk.delegateToday(1), 2);
    }

    private static void promise11DelegateRefuses() {
        Signround desk = new Signround();
        desk.pass(2);
        desk.delegate(0, 5, 2, 2, 3);
        Check.refuses("person -1", desk, Check.INDEX, () -> desk.delegate(-1, 1, 2, 2, 1));
        Check.refuses("person 8", desk, Check.INDEX, () -> desk.delegate(8, 1, 2, 2, 1));
        Check.refuses("other -1", desk, Check.INDEX, () -> desk.delegate(0, -1, 2, 2, 1));
        Check.refuses("other 8, limit wrong too", desk, Check.INDEX, () -> desk.delegate(0, 8, 2, 2, 0));
        Check.refuses("both 8", desk, Check.INDEX, () -> desk.delegate(8, 8, 2, 2, 1));
        Check.refuses("the same", desk, Check.ARGUMENT, () -> desk.delegate(1, 1, 2, 2, 1));
        Check.refuses("first before today", desk, Check.ARGUMENT, () -> desk.delegate(0, 1, 1, 2, 1));
        Check.refuses("first below 0", desk, Check.ARGUMENT, () -> desk.delegate(0, 1, Integer.MIN_VALUE, 2, 1));
        Check.refuses("last before first", desk, Check.ARGUMENT, () -> desk.delegate(0, 1, 3, 2, 1));
        Check.refuses("limit 0", desk, Check.ARGUMENT, () -> desk.delegate(0, 1, 2, 2, 0));
        Check.refuses("limit 10", desk, Check.ARGUMENT, () -> desk.delegate(0, 1, 2, 2, 10));
        Check.due("the delegate stays", desk.revoke(0), 5);
        Check.due("limit 9", desk.delegate(0, 1, 2, 2, 9), Signround.NONE);
    }

    private static void promise12Revoke() {
        Signround desk = sentDesk();
        Check.refuses("person -1", desk, Check.INDEX, () -> desk.revoke(-1));
        Check.refuses("person 8", desk, Check.INDEX, () -> desk.revoke(8));
        Check.refuses("without one", desk, Check.STATE, () -> desk.revoke(1));
        desk.delegate(1, 2, 0, 0, 1);
        desk.sign(2, 0, 0);
        Check.due("revoke", desk.revoke(1), 2);
        Check.due("delegateToday", desk.delegateToday(1), Signround.NONE);
        Check.due("whyNot", desk.whyNot(2, 0, 1), 4);
        Check.due("what was signed counts as before", desk.signedFor(1), 1);
        Check.refuses("a second time", desk, Check.STATE, () -> desk.revoke(1));
        desk.delegate(1, 3, 0, 0, 1);
        Check.due("whyNot at the limit", desk.whyNot(3, 0, 1), 5);
        desk.delegate(1, 4, 7, 7, 1);
        Check.due("revoke, for later days", desk.revoke(1), 4);
        desk.delegate(1, 0, 0, 0, 1);
        desk.pass(1);
        Check.due("revoke, for days gone by", desk.revoke(1), 0);
    }

    private static void promise13DelegateToday() {
        Signround desk = new Signround();
        Check.refuses("person -1", desk, Check.INDEX, () -> desk.delegateToday(-1));
        Check.refuses("person 8", desk, Check.INDEX, () -> desk.delegateToday(8));
        desk.delegate(7, 0, 2, 3, 1);
        int[] due = {Signround.NONE, Signround.NONE, 0, 0, Signround.NONE};
        for (int d = 0; d < 5; d++) {
            Check.due("delegateToday on day " + d, desk.delegateToday(7), due[d]);
            desk.pass(1);
        }
    }

    private static void promise14SignedFor() {
        Signround desk = sentDesk();
        desk.draft();
        desk.addRound(1, 0b10);
        desk.send(1);
        Check.refuses("person -1", desk, Check.INDEX, () -> desk.signedFor(-1));
        Check.refuses("person 8", desk, Check.INDEX, () -> desk.signedFor(8));
        desk.delegate(1, 2, 0, 9, 3);
        desk.sign(2, 0, 0);
        desk.sign(2, 1, 0);
        Check.due("in two envelopes", desk.signedFor(1), 2);
        desk.delegate(1, 3, 0, 9, 4);
        Check.due("behind another delegate", desk.signedFor(1), 2);
        desk.sign(3, 0, 1);
        Check.due("by two delegates", desk.signedFor(1), 3);
        desk.sign(1, 0, 4);
        Check.due("the person's own do not count", desk.signedFor(1), 3);
        desk.pass(1);
        Check.due("on the next day", desk.signedFor(1), 0);
        desk.sign(3, 0, 2);
        Check.due("again", desk.signedFor(1), 1);
        promise14SignedForEach();
    }

    private static void promise14SignedForEach() {
        Signround desk = new Signround();
        desk.draft();
        desk.addRound(0, 255);
        desk.send(0);
        for (int p = 0; p < 8; p++) {
            desk.delegate(p, 7 - p, 0, 0, 1);
            desk.sign(7 - p, 0, p);
            Check.due("signedFor " + p, desk.signedFor(p), 1);
        }
        desk.pass(1);
        for (int p = 0; p < 8; p++) {
            Check.due("on the next day, for " + p, desk.signedFor(p), 0);
        }
    }

    private static void promise15ToSign() {
        Signround desk = sentDesk();
        Check.refuses("person -1", desk, Check.INDEX, () -> desk.toSign(-1));
        Check.refuses("person 8", desk, Check.INDEX, () -> desk.toSign(8));
        for (int e = 1; e < 6; e++) {
            desk.draft();
            desk.addRound(e, 0b110);
        }
        Check.due("drafts do not count", desk.toSign(1), 3);
        desk.send(1);
        desk.send(5);
        Check.due("in three envelopes", desk.toSign(1), 5);
        Check.due("in two envelopes", desk.toSign(2), 2);
        desk.delegate(1, 2, 1, 1, 1);
        Check.due("not yet as the delegate", desk.toSign(2), 2);
        desk.pass(1);
        Check.due("each by itself, above the limit", desk.toSign(2), 7);
        desk.sign(2, 5, 0);
        Check.due("the limit is reached", desk.toSign(2), 2);
        Check.due("the person still may", desk.toSign(1), 4);
        desk.cancel(0);
        Check.due("voided", desk.toSign(1), 1);
        Check.due("nobody", desk.toSign(0), 0);
    }
}
