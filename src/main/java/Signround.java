/** A signature desk. ../shared/DOC.md says, in numbered promises, what each call does. */
public final class Signround {
    public static final int NONE = -1;
    public static final int DRAFT = 0, SENT = 1, COMPLETED = 2, DECLINED = 3, VOIDED = 4, EXPIRED = 5;
    public static final int WAITING = 0, OPEN = 1, SIGNED = 2, CLOSED = 3;
    public static final int SENDING = 0, SIGNING = 1, SIGNING_FOR = 2, DECLINING = 3, VOIDING = 4, EXPIRING = 5, REMINDER = 6;

    private static final int PEOPLE = 8;
    private static final int MOST_ENVELOPES = 6;
    private static final int MOST_SLOTS = 8;
    private static final int MOST_PACE = 30;
    private static final int MOST_TERM = 60;
    private static final int MOST_DAYS = 60;
    private static final int MOST_A_DAY = 9;
    private static final int MOST_REMINDERS = 5;
    // One sending, and for each slot its reminders and a signing or, once at most, what ended the envelope instead.
    private static final int MOST_EVENTS = 1 + MOST_SLOTS * (MOST_REMINDERS + 1);
    private static final int SEAL_MODULUS = 65521;

    // What whyNot() answers.
    private static final int AS_PERSON = 0;
    private static final int AS_DELEGATE = 1;
    private static final int NOT_SENT = 2;
    private static final int NOT_OPEN = 3;
    private static final int NOT_THEIRS = 4;
    private static final int NO_MORE_TODAY = 5;

    private final Envelope[] desk = new Envelope[MOST_ENVELOPES];
    private final Standin[] standins = new Standin[PEOPLE];
    // Made once, for every call that counts orders by sets.
    private final Row ways = new Row(1 << MOST_SLOTS);
    private int drafted;
    private int day;

    public Signround() {
        for (int p = 0; p < standins.length; p++) {
            standins[p] = new Standin();
        }
    }

    // ---- drafts

    public int draft() throws IllegalStateException {
        if (drafted >= desk.length) {
            throw new IllegalStateException("there are 6 envelopes");
        }
        desk[drafted] = new Envelope();
        drafted++;
        return drafted - 1;
    }

    public int addSlot(int envelope, int person, int before)
            throws IndexOutOfBoundsException, IllegalArgumentException, IllegalStateException {
        Envelope paper = envelopeAt(envelope);
        refuseNoPerson(person);
        if (before < 0 || before > paper.allSlots()) {
            throw new IllegalArgumentException("before has a slot that the envelope does not have");
        }
        refuseNoDraft(paper);
        if (paper.count >= MOST_SLOTS) {
            throw new IllegalStateException("the envelope has 8 slots");
        }
        paper.append(person, before);
        return paper.count - 1;
    }

    public int addRound(int envelope, int people)
            throws IndexOutOfBoundsException, IllegalArgumentException, IllegalStateException {
        Envelope paper = envelopeAt(envelope);
        if (people < 1 || people >= 1 << PEOPLE) {
            throw new IllegalArgumentException("people is not 1 to 255");
        }
        refuseNoDraft(paper);
        if (paper.count + Integer.bitCount(people) > MOST_SLOTS) {
            throw new IllegalStateException("the envelope would have more than 8 slots");
        }
        int before = paper.allSlots();
        for (int p = 0; p < PEOPLE; p++) {
            if (has(people, p)) {
                paper.append(p, before);
            }
        }
        return paper.count;
    }

    public void setTimes(int envelope, int pace, int term)
            throws IndexOutOfBoundsException, IllegalArgumentException, IllegalStateException {
        Envelope paper = envelopeAt(envelope);
        if (pace < 0 || pace > MOST_PACE) {
            throw new IllegalArgumentException("pace is not 0 to 30");
        }
        if (term < 0 || term > MOST_TERM) {
            throw new IllegalArgumentException("term is not 0 to 60");
        }
        refuseNoDraft(paper);
        paper.pace = pace;
        paper.term = term;
    }

    public int send(int envelope) throws IndexOutOfBoundsException, IllegalStateException {
        Envelope paper = envelopeAt(envelope);
        refuseNoDraft(paper);
        if (paper.count == 0) {
            throw new IllegalStateException("the envelope has no slots");
        }
        return paper.start(day);
    }

    // ---- people

    public int sign(int person, int envelope, int slot) throws IndexOutOfBoundsException, IllegalStateException {
        refuseNoPerson(person);
        Envelope paper = envelopeAt(envelope);
        refuseNoSlot(paper, slot);
        int reason = reasonFor(person, paper, slot);
        if (reason != AS_PERSON && reason != AS_DELEGATE) {
            throw new IllegalStateException("the person cannot sign the slot now");
        }
        if (reason == AS_PERSON) {
            return paper.mark(SIGNING, person, slot, day);
        }
        standinOf(paper.persons.get(slot)).signedToday++;
        return paper.mark(SIGNING_FOR, person, slot, day);
    }

    public int whyNot(int person, int envelope, int slot) throws IndexOutOfBoundsException {
        refuseNoPerson(person);
        Envelope paper = envelopeAt(envelope);
        refuseNoSlot(paper, slot);
        return reasonFor(person, paper, slot);
    }

    public int decline(int person, int envelope, int slot) throws IndexOutOfBoundsException, IllegalStateException {
        refuseNoPerson(person);
        Envelope paper = envelopeAt(envelope);
        refuseNoSlot(paper, slot);
        // A delegate signs in the place of a person, but does not decline.
        if (reasonFor(person, paper, slot) != AS_PERSON) {
            throw new IllegalStateException("the person cannot decline the slot now");
        }
        return paper.finish(DECLINED, DECLINING, person, slot, day);
    }

    public int cancel(int envelope) throws IndexOutOfBoundsException, IllegalStateException {
        Envelope paper = envelopeAt(envelope);
        if (paper.state != SENT) {
            throw new IllegalStateException("the envelope is not sent");
        }
        return paper.finish(VOIDED, VOIDING, NONE, NONE, day);
    }

    public int delegate(int person, int other, int first, int last, int limit)
            throws IndexOutOfBoundsException, IllegalArgumentException {
        Standin standin = standinOf(person);
        refuseNoPerson(other);
        if (person == other) {
            throw new IllegalArgumentException("person and other are the same");
        }
        if (first < day || last < first) {
            throw new IllegalArgumentException("first is before today, or last before first");
        }
        if (limit < 1 || limit > MOST_A_DAY) {
            throw new IllegalArgumentException("limit is not 1 to 9");
        }
        int had = standin.other;
        standin.other = other;
        standin.first = first;
        standin.last = last;
        standin.limit = limit;
        return had;
    }

    public int revoke(int person) throws IndexOutOfBoundsException, IllegalStateException {
        Standin standin = standinOf(person);
        int had = standin.other;
        if (had == NONE) {
            throw new IllegalStateException("the person has no delegate");
        }
        standin.other = NONE;
        return had;
    }

    public int delegateToday(int person) throws IndexOutOfBoundsException {
        return standinOf(person).otherOn(day);
    }

    public int signedFor(int person) throws IndexOutOfBoundsException {
        return standinOf(person).signedToday;
    }

    public int toSign(int person) throws IndexOutOfBoundsException {
        refuseNoPerson(person);
        int found = 0;
        for (int e = 0; e < drafted; e++) {
            Envelope paper = envelopeAt(e);
            for (int s = 0; s < paper.count; s++) {
                int reason = reasonFor(person, paper, s);
                if (reason == AS_PERSON || reason == AS_DELEGATE) {
                    found++;
                }
            }
        }
        return found;
    }

    // ---- days

    public int pass(int days) throws IllegalArgumentException {
        if (days < 1 || days > MOST_DAYS) {
            throw new IllegalArgumentException("days is not 1 to 60");
        }
        int reminders = 0;
        for (int d = 0; d < days; d++) {
            reminders += passOneDay();
        }
        return reminders;
    }

    public int today() {
        return day;
    }

    public int nextReminder(int envelope) throws IndexOutOfBoundsException {
        return envelopeAt(envelope).reminderBehind(day);
    }

    // ---- envelopes

    public int envelopes() {
        return drafted;
    }

    public int state(int envelope) throws IndexOutOfBoundsException {
        return envelopeAt(envelope).state;
    }

    public int slots(int envelope) throws IndexOutOfBoundsException {
        return envelopeAt(envelope).count;
    }

    public int slotState(int envelope, int slot) throws IndexOutOfBoundsException {
        Envelope paper = envelopeAt(envelope);
        refuseNoSlot(paper, slot);
        return paper.stateOf(slot);
    }

    public int missing(int envelope, int slot) throws IndexOutOfBoundsException {
        Envelope paper = envelopeAt(envelope);
        refuseNoSlot(paper, slot);
        return Integer.bitCount(paper.before.get(slot) & ~paper.signed);
    }

    public float share(int envelope) throws IndexOutOfBoundsException {
        Envelope paper = envelopeAt(envelope);
        if (paper.count == 0) {
            return 0.0f;
        }
        return (float) Integer.bitCount(paper.signed) / (float) paper.count;
    }

    // ---- orders

    public int ahead(int envelope, int slot) throws IndexOutOfBoundsException {
        Envelope paper = envelopeAt(envelope);
        refuseNoSlot(paper, slot);
        return Integer.bitCount(paper.aheadOf(slot));
    }

    public int roundOf(int envelope, int slot) throws IndexOutOfBoundsException {
        Envelope paper = envelopeAt(envelope);
        refuseNoSlot(paper, slot);
        return paper.rounds.get(slot);
    }

    public int orders(int envelope) throws IndexOutOfBoundsException {
        return envelopeAt(envelope).ordersBehind(0, ways);
    }

    public int ordersByAll(int envelope) throws IndexOutOfBoundsException {
        return countByTrying(envelopeAt(envelope), 0, 0);
    }

    public int ordersLeft(int envelope) throws IndexOutOfBoundsException {
        Envelope paper = envelopeAt(envelope);
        return paper.ordersBehind(paper.signed, ways);
    }

    // ---- histories

    public int events(int envelope) throws IndexOutOfBoundsException {
        return envelopeAt(envelope).history.length;
    }

    public int kindOf(int envelope, int event) throws IndexOutOfBoundsException {
        History history = envelopeAt(envelope).history;
        refuseNoEvent(history, event);
        return history.kinds.get(event);
    }

    public int personOf(int envelope, int event) throws IndexOutOfBoundsException {
        History history = envelopeAt(envelope).history;
        refuseNoEvent(history, event);
        return history.persons.get(event);
    }

    public int dayOf(int envelope, int event) throws IndexOutOfBoundsException {
        History history = envelopeAt(envelope).history;
        refuseNoEvent(history, event);
        return history.days.get(event);
    }

    public int seal(int envelope, int events) throws IndexOutOfBoundsException {
        History history = envelopeAt(envelope).history;
        refuseTooManyEvents(history, events);
        return history.sealBehind(events);
    }

    public int stateBehind(int envelope, int events) throws IndexOutOfBoundsException {
        Envelope paper = envelopeAt(envelope);
        refuseTooManyEvents(paper.history, events);
        return paper.history.stateAfter(events, paper.count);
    }

    public int openBehind(int envelope, int events) throws IndexOutOfBoundsException {
        Envelope paper = envelopeAt(envelope);
        refuseTooManyEvents(paper.history, events);
        if (paper.history.stateAfter(events, paper.count) != SENT) {
            return 0;
        }
        return paper.nextBehind(paper.history.signedAfter(events));
    }

    // ---- what the calls share

    private Envelope envelopeAt(int envelope) {
        if (envelope < 0 || envelope >= drafted || envelope >= desk.length) {
            throw new IndexOutOfBoundsException("there is no such envelope");
        }
        Envelope paper = desk[envelope];
        if (paper == null) {
            throw new IndexOutOfBoundsException("there is no such envelope");
        }
        return paper;
    }

    private Standin standinOf(int person) {
        if (person < 0 || person >= standins.length) {
            throw new IndexOutOfBoundsException("there is no such person");
        }
        Standin standin = standins[person];
        if (standin == null) {
            throw new IndexOutOfBoundsException("there is no such person");
        }
        return standin;
    }

    private static void refuseNoPerson(int person) {
        if (person < 0 || person >= PEOPLE) {
            throw new IndexOutOfBoundsException("there is no such person");
        }
    }

    private static void refuseNoSlot(Envelope paper, int slot) {
        if (slot < 0 || slot >= paper.count) {
            throw new IndexOutOfBoundsException("there is no such slot");
        }
    }

    private static void refuseNoEvent(History history, int event) {
        if (event < 0 || event >= history.length) {
            throw new IndexOutOfBoundsException("there is no such event");
        }
    }

    private static void refuseTooManyEvents(History history, int events) {
        if (events < 0 || events > history.length) {
            throw new IndexOutOfBoundsException("there are not so many events");
        }
    }

    private static void refuseNoDraft(Envelope paper) {
        if (paper.state != DRAFT) {
            throw new IllegalStateException("the envelope is no draft");
        }
    }

    private int reasonFor(int person, Envelope paper, int slot) {
        if (paper.state != SENT) {
            return NOT_SENT;
        }
        if (!has(paper.open, slot)) {
            return NOT_OPEN;
        }
        int owner = paper.persons.get(slot);
        if (owner == person) {
            return AS_PERSON;
        }
        Standin standin = standinOf(owner);
        if (standin.otherOn(day) != person) {
            return NOT_THEIRS;
        }
        // More than the limit is possible too, when a delegate with a lower one has come since.
        return standin.signedToday >= standin.limit ? NO_MORE_TODAY : AS_DELEGATE;
    }

    private int passOneDay() {
        day++;
        for (int p = 0; p < PEOPLE; p++) {
            standinOf(p).signedToday = 0;
        }
        int reminders = 0;
        for (int e = 0; e < drafted; e++) {
            reminders += envelopeAt(e).meetDay(day);
        }
        return reminders;
    }

    private static int countByTrying(Envelope paper, int done, int depth) {
        if (depth >= paper.count) {
            return 1;
        }
        if (depth >= MOST_SLOTS) {
            return 0;
        }
        int next = paper.nextBehind(done);
        int found = 0;
        for (int s = 0; s < paper.count; s++) {
            if (has(next, s)) {
                found += countByTrying(paper, done | 1 << s, depth + 1);
            }
        }
        return found;
    }

    private static boolean has(int set, int number) {
        return (set >> number & 1) != 0;
    }

    /** Numbers at places. Here alone stand the tests that keep an index inside its array. */
    private static final class Row {
        private final int[] cells;

        Row(int length) {
            cells = new int[length < 0 ? 0 : length];
        }

        int get(int place) {
            return place < 0 || place >= cells.length ? 0 : cells[place];
        }

        void set(int place, int number) {
            if (place >= 0 && place < cells.length) {
                cells[place] = number;
            }
        }
    }

    /** Who may sign in the place of one person, and how often that was done today. */
    private static final class Standin {
        int other = NONE;
        int first;
        int last;
        int limit;
        // Stays when the delegate is replaced or taken away: it counts for the person.
        int signedToday;

        int otherOn(int day) {
            return first <= day && day <= last ? other : NONE;
        }
    }

    /** Slots, in an order, and what became of them. A set of slots counts each 2 to the power of its number. */
    private static final class Envelope {
        final Row persons = new Row(MOST_SLOTS);
        final Row before = new Row(MOST_SLOTS);
        final Row rounds = new Row(MOST_SLOTS);
        final Row openedOn = new Row(MOST_SLOTS);
        final Row reminded = new Row(MOST_SLOTS);
        final History history = new History();
        int count;
        int state = DRAFT;
        int pace;
        int term;
        int sentOn;
        int signed;
        int open;

        int allSlots() {
            return (1 << count) - 1;
        }

        void append(int person, int earlier) {
            int round = 0;
            for (int s = 0; s < count; s++) {
                if (has(earlier, s)) {
                    round = Math.max(round, rounds.get(s) + 1);
                }
            }
            persons.set(count, person);
            before.set(count, earlier);
            rounds.set(count, round);
            count++;
        }

        /** The slots of which all before them are in the set, and that are not in it themselves. */
        int nextBehind(int done) {
            int next = 0;
            for (int s = 0; s < count; s++) {
                if (!has(done, s) && (before.get(s) & ~done) == 0) {
                    next |= 1 << s;
                }
            }
            return next;
        }

        int aheadOf(int slot) {
            int found = before.get(slot);
            // Downwards, since the slots before a slot are earlier ones: each is met when it is found already.
            for (int s = slot - 1; s >= 0; s--) {
                if (has(found, s)) {
                    found |= before.get(s);
                }
            }
            return found;
        }

        int ordersBehind(int done, Row ways) {
            int all = allSlots();
            for (int set = done; set <= all; set++) {
                ways.set(set, 0);
            }
            ways.set(done, 1);
            // A set stands behind all of its parts, so its count is whole when it is met.
            for (int set = done; set < all; set++) {
                int here = ways.get(set);
                int next = here == 0 ? 0 : nextBehind(set);
                for (int s = 0; s < count; s++) {
                    if (has(next, s)) {
                        ways.set(set | 1 << s, ways.get(set | 1 << s) + here);
                    }
                }
            }
            return ways.get(all);
        }

        int start(int day) {
            state = SENT;
            sentOn = day;
            history.add(SENDING, NONE, NONE, day);
            return openNext(day);
        }

        int mark(int kind, int person, int slot, int day) {
            signed |= 1 << slot;
            open &= ~(1 << slot);
            history.add(kind, person, slot, day);
            if (signed == allSlots()) {
                state = COMPLETED;
            }
            return openNext(day);
        }

        int openNext(int day) {
            int fresh = nextBehind(signed) & ~open;
            for (int s = 0; s < count; s++) {
                if (has(fresh, s)) {
                    openedOn.set(s, day);
                }
            }
            open |= fresh;
            return Integer.bitCount(fresh);
        }

        int finish(int end, int kind, int person, int slot, int day) {
            state = end;
            open = 0;
            history.add(kind, person, slot, day);
            return count - Integer.bitCount(signed);
        }

        int meetDay(int day) {
            if (state != SENT) {
                return 0;
            }
            if (term > 0 && day == sentOn + term) {
                finish(EXPIRED, EXPIRING, NONE, NONE, day);
                return 0;
            }
            return remind(day);
        }

        int remind(int day) {
            int reminders = 0;
            for (int s = 0; s < count; s++) {
                if (canRemind(s) && daysToPace(s, day) == pace) {
                    reminded.set(s, reminded.get(s) + 1);
                    history.add(REMINDER, persons.get(s), s, day);
                    reminders++;
                }
            }
            return reminders;
        }

        int reminderBehind(int day) {
            int soonest = NONE;
            for (int s = 0; s < count; s++) {
                if (canRemind(s)) {
                    int next = day + daysToPace(s, day);
                    soonest = soonest == NONE ? next : Math.min(soonest, next);
                }
            }
            return soonest;
        }

        // Only a sent envelope has open slots.
        boolean canRemind(int slot) {
            return pace > 0 && has(open, slot) && reminded.get(slot) < MOST_REMINDERS;
        }

        /** How many days behind the day the slot's next multiple of the pace is: 1 to the pace. */
        int daysToPace(int slot, int day) {
            return pace <= 0 ? 0 : pace - (day - openedOn.get(slot)) % pace;
        }

        int stateOf(int slot) {
            if (has(signed, slot)) {
                return SIGNED;
            }
            if (has(open, slot)) {
                return OPEN;
            }
            return state == DRAFT || state == SENT ? WAITING : CLOSED;
        }
    }

    /** The events of an envelope, and what they alone tell. */
    private static final class History {
        final Row kinds = new Row(MOST_EVENTS);
        final Row persons = new Row(MOST_EVENTS);
        final Row slots = new Row(MOST_EVENTS);
        final Row days = new Row(MOST_EVENTS);
        int length;

        void add(int kind, int person, int slot, int day) {
            if (length >= MOST_EVENTS) {
                return;
            }
            kinds.set(length, kind);
            persons.set(length, person);
            slots.set(length, slot);
            days.set(length, day);
            length++;
        }

        int sealBehind(int events) {
            int sum = 1;
            for (int e = 0; e < events; e++) {
                sum = 31 * sum + 7 * kinds.get(e) + 11 * (persons.get(e) + 1)
                        + 13 * (slots.get(e) + 1) + 17 * days.get(e);
                sum %= SEAL_MODULUS;
            }
            return sum;
        }

        int signedAfter(int events) {
            int signed = 0;
            for (int e = 0; e < events; e++) {
                if (isSigning(kinds.get(e))) {
                    signed |= 1 << slots.get(e);
                }
            }
            return signed;
        }

        int stateAfter(int events, int slotCount) {
            int state = DRAFT;
            int signings = 0;
            for (int e = 0; e < events; e++) {
                int kind = kinds.get(e);
                if (isSigning(kind)) {
                    signings++;
                }
                state = stateWith(kind, state, signings == slotCount);
            }
            return state;
        }

        private static boolean isSigning(int kind) {
            return kind == SIGNING || kind == SIGNING_FOR;
        }

        private static int stateWith(int kind, int state, boolean allSigned) {
            switch (kind) {
                case SENDING:
                    return SENT;
                case SIGNING:
                case SIGNING_FOR:
                    return allSigned ? COMPLETED : state;
                case DECLINING:
                    return DECLINED;
                case VOIDING:
                    return VOIDED;
                case EXPIRING:
                    return EXPIRED;
                default:
                    return state;
            }
        }
    }
}
