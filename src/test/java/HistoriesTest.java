/** Promises 30 to 36. */
public final class HistoriesTest {
    public static void main(String[] args) {
        promises30To33Events();
        promises31To33Refuse();
        promise30MostEvents();
        promise34Seal();
        promise35StateBehind();
        promise36OpenBehind();
        promises34To36Refuse();
        Check.end();
    }

    /** Person 0 signs slot 0 on day 1, 5 signs slot 1 for 3 on day 2, slot 2 of 6 is reminded of on day 4. */
    private static Signround story() {
        Signround desk = new Signround();
        desk.draft();
        desk.addSlot(0, 0, 0);
        desk.addSlot(0, 3, 1);
        desk.addSlot(0, 6, 2);
        desk.addSlot(0, 2, 4);
        desk.setTimes(0, 2, 0);
        desk.pass(1);
        desk.send(0);
        desk.sign(0, 0, 0);
        desk.pass(1);
        desk.delegate(3, 5, 2, 2, 1);
        desk.sign(5, 0, 1);
        desk.pass(3);
        return desk;
    }

    private static void promises30To33Events() {
        Signround desk = story();
        desk.cancel(0);
        int[] kinds = {Signround.SENDING, Signround.SIGNING, Signround.SIGNING_FOR, Signround.REMINDER, Signround.VOIDING};
        int[] persons = {Signround.NONE, 0, 5, 6, Signround.NONE};
        int[] days = {1, 1, 2, 4, 5};
        Check.due("events", desk.events(0), 5);
        for (int v = 0; v < 5; v++) {
            Check.due("kindOf " + v, desk.kindOf(0, v), kinds[v]);
            Check.due("personOf " + v, desk.personOf(0, v), persons[v]);
            Check.due("dayOf " + v, desk.dayOf(0, v), days[v]);
        }
        desk.draft();
        Check.due("events of a draft", desk.events(1), 0);
        desk.addRound(1, 1);
        desk.send(1);
        desk.decline(0, 1, 0);
        Check.due("events", desk.events(1), 2);
        Check.due("kindOf", desk.kindOf(1, 1), Signround.DECLINING);
        Check.due("personOf", desk.personOf(1, 1), 0);
        Check.due("events of the other", desk.events(0), 5);
    }

    private static void promises31To33Refuse() {
        Signround desk = story();
        desk.draft();
        Check.refuses("events of envelope 2", desk, Check.INDEX, () -> desk.events(2));
        Check.refuses("events of envelope -1", desk, Check.INDEX, () -> desk.events(-1));
        int[][] wrong = {{0, 4}, {0, -1}, {2, 0}, {-1, 0}, {1, 0}};
        for (int[] w : wrong) {
            String where = " of event " + w[1] + " of envelope " + w[0];
            Check.refuses("kindOf" + where, desk, Check.INDEX, () -> desk.kindOf(w[0], w[1]));
            Check.refuses("personOf" + where, desk, Check.INDEX, () -> desk.personOf(w[0], w[1]));
            Check.refuses("dayOf" + where, desk, Check.INDEX, () -> desk.dayOf(w[0], w[1]));
        }
    }

    /** One sending, 5 reminders of each of 8 slots, and 8 signings, or 7 and what ended it. */
    private static void promise30MostEvents() {
        for (int way = 0; way < 2; way++) {
            Signround desk = new Signround();
            desk.draft();
            desk.addRound(0, 255);
            desk.setTimes(0, 1, 0);
            desk.send(0);
            desk.pass(6);
            for (int s = 0; s < 7; s++) {
                desk.sign(s, 0, s);
            }
            if (way == 0) {
                desk.sign(7, 0, 7);
            } else {
                desk.cancel(0);
            }
            Check.due("events", desk.events(0), 49);
            Check.due("the last reminder", desk.kindOf(0, 40), Signround.REMINDER);
            Check.due("its person", desk.personOf(0, 40), 7);
            Check.due("the last", desk.kindOf(0, 48), way == 0 ? Signround.SIGNING : Signround.VOIDING);
            Check.due("stateBehind", desk.stateBehind(0, 49), desk.state(0));
        }
    }

    private static void promise34Seal() {
        Signround desk = story();
        Check.due("of none", desk.seal(0, 0), 1);
        // SENDING, NONE, NONE, day 1: 31 + 17
        Check.due("of the sending", desk.seal(0, 1), 48);
        // SIGNING, person 0, slot 0, day 1: 48 * 31 + 7 + 11 + 13 + 17
        Check.due("and the signing", desk.seal(0, 2), 1536);
        // SIGNING_FOR, person 5, slot 1, day 2: 1536 * 31 + 14 + 66 + 26 + 34
        Check.due("and the signing for", desk.seal(0, 3), 47756);
        // REMINDER, person 6, slot 2, day 4: 47756 * 31 + 42 + 77 + 39 + 68 = 1480662
        Check.due("and the reminder", desk.seal(0, 4), 1480662 % 65521);
        desk.draft();
        Check.due("of a draft", desk.seal(1, 0), 1);
        Signround late = new Signround();
        late.draft();
        late.addRound(0, 1);
        for (int n = 0; n < 500; n++) {
            late.pass(60);
        }
        late.send(0);
        Check.due("of a late day", late.seal(0, 1), (31 + 17 * 30000) % 65521);
    }

    private static void promise35StateBehind() {
        Signround desk = story();
        Check.due("behind none", desk.stateBehind(0, 0), Signround.DRAFT);
        for (int v = 1; v <= 4; v++) {
            Check.due("behind " + v, desk.stateBehind(0, v), Signround.SENT);
        }
        desk.cancel(0);
        Check.due("voided", desk.stateBehind(0, 5), Signround.VOIDED);
        Check.due("ahead of that", desk.stateBehind(0, 4), Signround.SENT);
        Signround signed = story();
        signed.sign(6, 0, 2);
        signed.sign(2, 0, 3);
        Check.due("one left", signed.stateBehind(0, 5), Signround.SENT);
        Check.due("completed", signed.stateBehind(0, 6), Signround.COMPLETED);
        Signround declined = story();
        declined.decline(6, 0, 2);
        Check.due("declined", declined.stateBehind(0, 5), Signround.DECLINED);
        Signround expired = new Signround();
        expired.draft();
        expired.addRound(0, 1);
        expired.setTimes(0, 0, 1);
        expired.send(0);
        expired.pass(1);
        Check.due("expired", expired.stateBehind(0, 2), Signround.EXPIRED);
        Signround byDelegate = new Signround();
        byDelegate.draft();
        byDelegate.addRound(0, 1);
        byDelegate.send(0);
        byDelegate.delegate(0, 1, 0, 0, 1);
        byDelegate.sign(1, 0, 0);
        Check.due("completed by a delegate", byDelegate.stateBehind(0, 2), Signround.COMPLETED);
    }

    private static void promise36OpenBehind() {
        Signround desk = new Signround();
        desk.draft();
        desk.addSlot(0, 0, 0);
        desk.addSlot(0, 0, 0);
        desk.addSlot(0, 0, 3);
        desk.addSlot(0, 0, 1);
        desk.setTimes(0, 1, 0);
        Check.due("a draft", desk.openBehind(0, 0), 0);
        desk.send(0);
        desk.sign(0, 0, 0);
        desk.pass(1);
        desk.delegate(0, 1, 1, 1, 1);
        desk.sign(1, 0, 1);
        desk.sign(0, 0, 3);
        desk.sign(0, 0, 2);
        int[] due = {0, 0b0011, 0b1010, 0b1010, 0b1010, 0b1100, 0b0100, 0};
        Check.due("events", desk.events(0), 7);
        for (int v = 0; v <= 7; v++) {
            Check.due("behind " + v, desk.openBehind(0, v), due[v]);
        }
        for (int end = 0; end < 3; end++) {
            Signround ended = new Signround();
            ended.draft();
            ended.addRound(0, 0b111);
            ended.setTimes(0, 0, 1);
            ended.send(0);
            if (end == 0) {
                ended.decline(2, 0, 2);
            } else if (end == 1) {
                ended.cancel(0);
            } else {
                ended.pass(1);
            }
            Check.due("ahead of the end", ended.openBehind(0, 1), 0b111);
            Check.due("behind the end", ended.openBehind(0, 2), 0);
        }
    }

    private static void promises34To36Refuse() {
        Signround desk = story();
        desk.draft();
        int[][] wrong = {{0, 5}, {0, -1}, {2, 0}, {-1, 0}, {1, 1}, {0, Integer.MAX_VALUE}};
        for (int[] w : wrong) {
            String where = " behind " + w[1] + " of envelope " + w[0];
            Check.refuses("seal" + where, desk, Check.INDEX, () -> desk.seal(w[0], w[1]));
            Check.refuses("stateBehind" + where, desk, Check.INDEX, () -> desk.stateBehind(w[0], w[1]));
            Check.refuses("openBehind" + where, desk, Check.INDEX, () -> desk.openBehind(w[0], w[1]));
        }
    }
}
