/** All that a desk tells, as one text. */
final class Snapshot {
    private static final int PEOPLE = 8;

    private Snapshot() {
    }

    static String of(Signround desk) {
        StringBuilder text = new StringBuilder();
        text.append("day ").append(desk.today()).append('\n');
        for (int p = 0; p < PEOPLE; p++) {
            text.append("person ").append(p).append(' ').append(desk.delegateToday(p));
            text.append(' ').append(desk.signedFor(p)).append(' ').append(desk.toSign(p)).append('\n');
        }
        for (int e = 0; e < desk.envelopes(); e++) {
            envelope(text, desk, e);
        }
        return text.toString();
    }

    private static void envelope(StringBuilder text, Signround desk, int e) {
        text.append("envelope ").append(e).append(' ').append(desk.state(e)).append(' ').append(desk.share(e));
        text.append(' ').append(desk.nextReminder(e)).append(' ').append(desk.orders(e));
        text.append(' ').append(desk.ordersLeft(e)).append('\n');
        for (int s = 0; s < desk.slots(e); s++) {
            text.append("slot ").append(s).append(' ').append(desk.slotState(e, s)).append(' ').append(desk.missing(e, s));
            text.append(' ').append(desk.ahead(e, s)).append(' ').append(desk.roundOf(e, s));
            for (int p = 0; p < PEOPLE; p++) {
                text.append(' ').append(desk.whyNot(p, e, s));
            }
            text.append('\n');
        }
        for (int v = 0; v <= desk.events(e); v++) {
            text.append("behind ").append(v).append(' ').append(desk.seal(e, v)).append(' ').append(desk.stateBehind(e, v));
            text.append(' ').append(desk.openBehind(e, v));
            if (v < desk.events(e)) {
                text.append(' ').append(desk.kindOf(e, v)).append(' ').append(desk.personOf(e, v)).append(' ').append(desk.dayOf(e, v));
            }
            text.append('\n');
        }
    }
}
