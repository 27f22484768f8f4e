/** Promises 19 to 24. */
public final class EnvelopesTest {
    public static void main(String[] args) {
        promise19Envelopes();
        promise20State();
        promise21Slots();
        promise22SlotState();
        promise23Missing();
        promise24Share();
        Check.end();
    }

    private static void promise19Envelopes() {
        Signround desk = new Signround();
        Check.due("envelopes", desk.envelopes(), 0);
        for (int e = 1; e <= 6; e++) {
            desk.draft();
            Check.due("envelopes", desk.envelopes(), e);
        }
        desk.addRound(0, 1);
        desk.send(0);
        desk.cancel(0);
        Check.due("an ended one stays", desk.envelopes(), 6);
    }

    private static void promise20State() {
        Signround desk = new Signround();
        for (int e = 0; e < 6; e++) {
            desk.draft();
            desk.addRound(e, 1);
            if (e == 5) {
                desk.setTimes(e, 0, 1);
            }
            if (e > 0) {
                desk.send(e);
            }
        }
        desk.sign(0, 2, 0);
        desk.decline(0, 3, 0);
        desk.cancel(4);
        desk.pass(1);
        int[] due = {Signround.DRAFT, Signround.SENT, Signround.COMPLETED, Signround.DECLINED, Signround.VOIDED, Signround.EXPIRED};
        for (int e = 0; e < 6; e++) {
            Check.due("state", desk.state(e), due[e]);
        }
        Check.refuses("envelope 6", desk, Check.INDEX, () -> desk.state(6));
        Check.refuses("envelope -1", desk, Check.INDEX, () -> desk.state(-1));
        Signround empty = new Signround();
        Check.refuses("envelope 0 of none", empty, Check.INDEX, () -> empty.state(0));
    }

    private static void promise21Slots() {
        Signround desk = new Signround();
        desk.draft();
        Check.due("slots", desk.slots(0), 0);
        desk.addSlot(0, 1, 0);
        Check.due("slots", desk.slots(0), 1);
        desk.addRound(0, 0b1111111);
        Check.due("slots", desk.slots(0), 8);
        desk.send(0);
        Check.due("slots", desk.slots(0), 8);
        Check.refuses("envelope 1", desk, Check.INDEX, () -> desk.slots(1));
        Check.refuses("envelope -1", desk, Check.INDEX, () -> desk.slots(-1));
    }

    private static void promise22SlotState() {
        Signround desk = new Signround();
        desk.draft();
        desk.addSlot(0, 0, 0);
        desk.addSlot(0, 0, 1);
        Check.due("in a draft", desk.slotState(0, 0), Signround.WAITING);
        Check.due("in a draft", desk.slotState(0, 1), Signround.WAITING);
        desk.send(0);
        Check.due("sent", desk.slotState(0, 0), Signround.OPEN);
        Check.due("sent", desk.slotState(0, 1), Signround.WAITING);
        desk.sign(0, 0, 0);
        Check.due("signed", desk.slotState(0, 0), Signround.SIGNED);
        Check.due("behind it", desk.slotState(0, 1), Signround.OPEN);
        desk.cancel(0);
        Check.due("voided", desk.slotState(0, 0), Signround.SIGNED);
        Check.due("voided", desk.slotState(0, 1), Signround.CLOSED);
        Check.refuses("slot 2", desk, Check.INDEX, () -> desk.slotState(0, 2));
        Check.refuses("slot -1", desk, Check.INDEX, () -> desk.slotState(0, -1));
        Check.refuses("envelope 1", desk, Check.INDEX, () -> desk.slotState(1, 0));
        Check.refuses("envelope -1", desk, Check.INDEX, () -> desk.slotState(-1, 0));
        Signround full = new Signround();
        full.draft();
        full.addRound(0, 255);
        Check.refuses("slot 8 of 8", full, Check.INDEX, () -> full.slotState(0, 8));
    }

    private static void promise23Missing() {
        Signround desk = new Signround();
        desk.draft();
        desk.addSlot(0, 0, 0);
        desk.addSlot(0, 0, 1);
        desk.addSlot(0, 0, 2);
        desk.addSlot(0, 0, 7);
        Check.due("none before", desk.missing(0, 0), 0);
        Check.due("only those that were told", desk.missing(0, 2), 1);
        Check.due("all that were told", desk.missing(0, 3), 3);
        desk.send(0);
        desk.sign(0, 0, 0);
        Check.due("signed", desk.missing(0, 1), 0);
        Check.due("one of three signed", desk.missing(0, 3), 2);
        Check.due("another was signed", desk.missing(0, 2), 1);
        desk.cancel(0);
        Check.due("closed are not signed", desk.missing(0, 3), 2);
        Check.refuses("slot 4", desk, Check.INDEX, () -> desk.missing(0, 4));
        Check.refuses("slot -1", desk, Check.INDEX, () -> desk.missing(0, -1));
        Check.refuses("envelope 1", desk, Check.INDEX, () -> desk.missing(1, 0));
        Check.refuses("envelope -1", desk, Check.INDEX, () -> desk.missing(-1, 0));
    }

    private static void promise24Share() {
        Signround desk = new Signround();
        desk.draft();
        Check.due("without slots", desk.share(0), 0.0f);
        desk.addRound(0, 0b1111111);
        Check.due("a draft", desk.share(0), 0.0f);
        desk.send(0);
        float[] due = {0.14285715f, 0.2857143f, 0.42857143f, 0.5714286f, 0.71428573f, 0.85714287f, 1.0f};
        for (int s = 0; s < 7; s++) {
            desk.sign(s, 0, s);
            Check.due("share", desk.share(0), due[s]);
        }
        Check.refuses("envelope 1", desk, Check.INDEX, () -> desk.share(1));
        Check.refuses("envelope -1", desk, Check.INDEX, () -> desk.share(-1));
    }
}
