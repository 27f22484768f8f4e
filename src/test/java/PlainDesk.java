import java.util.ArrayList;
import java.util.List;
import java.util.Set;
import java.util.TreeSet;

/** The document told a second time: the events alone are kept, and everything else is looked up in them. */
public final class PlainDesk {
    private record Event(int kind, int person, int slot, int day) {
    }

    private record Slot(int person, Set<Integer> before) {
    }

    private record Delegate(int other, int first, int last, int limit) {
    }

    private static final class Envelope {
        final List<Slot> slots = new ArrayList<>();
        final List<Event> events = new ArrayList<>();
        int pace = 0;
        int term = 0;

        Envelope behind(int count) {
            Envelope then = new Envelope();
            then.slots.addAll(slots);
            then.events.addAll(events.subList(0, count));
            return then;
        }

        boolean happened(int kind) {
            return events.stream().anyMatch(v -> v.kind == kind);
        }

        int signedOn(int slot) {
            for (Event v : events) {
                if (v.slot == slot && (v.kind == Signround.SIGNING || v.kind == Signround.SIGNING_FOR)) {
                    return v.day;
                }
            }
            return -1;
        }

        boolean isSigned(int slot) {
            return signedOn(slot) >= 0;
        }

        Set<Integer> numbers() {
            Set<Integer> all = new TreeSet<>();
            for (int s = 0; s < slots.size(); s++) {
                all.add(s);
            }
            return all;
        }

        Set<Integer> unsigned() {
            Set<Integer> left = numbers();
            left.removeIf(this::isSigned);
            return left;
        }

        int state() {
            if (!happened(Signround.SENDING)) {
                return Signround.DRAFT;
            }
            if (happened(Signround.DECLINING)) {
                return Signround.DECLINED;
            }
            if (happened(Signround.VOIDING)) {
                return Signround.VOIDED;
            }
            if (happened(Signround.EXPIRING)) {
                return Signround.EXPIRED;
            }
            return unsigned().isEmpty() ? Signround.COMPLETED : Signround.SENT;
        }

        int slotState(int slot) {
            if (isSigned(slot)) {
                return Signround.SIGNED;
            }
            if (state() == Signround.DRAFT) {
                return Signround.WAITING;
            }
            if (state() != Signround.SENT) {
                return Signround.CLOSED;
            }
            return slots.get(slot).before.stream().allMatch(this::isSigned) ? Signround.OPEN : Signround.WAITING;
        }

        int howManyAre(int slotState) {
            return (int) numbers().stream().filter(s -> slotState(s) == slotState).count();
        }

        int openedOn(int slot) {
            int day = events.get(0).day;
            for (int b : slots.get(slot).before) {
                day = Math.max(day, signedOn(b));
            }
            return day;
        }

        boolean isRemindedOf(int slot, int day) {
            long had = events.stream().filter(v -> v.kind == Signround.REMINDER && v.slot == slot).count();
            if (pace == 0 || slotState(slot) != Signround.OPEN || had >= 5) {
                return false;
            }
            int due = openedOn(slot) + pace;
            while (due < day) {
                due += pace;
            }
            return due == day;
        }

        int closeBy(Event end) {
            int before = howManyAre(Signround.CLOSED);
            events.add(end);
            return howManyAre(Signround.CLOSED) - before;
        }

        int round(int slot) {
            int round = 0;
            for (int b : slots.get(slot).before) {
                round = Math.max(round, round(b) + 1);
            }
            return round;
        }

        void collectAhead(int slot, Set<Integer> found) {
            for (int b : slots.get(slot).before) {
                found.add(b);
                collectAhead(b, found);
            }
        }

        /** From the back: each slot that comes before none of the others may be the last. */
        int ordersOf(Set<Integer> left) {
            if (left.isEmpty()) {
                return 1;
            }
            int found = 0;
            for (int last : left) {
                if (left.stream().noneMatch(s -> slots.get(s).before.contains(last))) {
                    Set<Integer> others = new TreeSet<>(left);
                    others.remove(last);
                    found += ordersOf(others);
                }
            }
            return found;
        }
    }

    private final List<Envelope> envelopes = new ArrayList<>();
    private final Delegate[] delegates = new Delegate[8];
    private int today = 0;

    private static void require(boolean holds, RuntimeException otherwise) {
        if (!holds) {
            throw otherwise;
        }
    }

    private static void index(boolean holds) {
        require(holds, new IndexOutOfBoundsException());
    }

    private static void argument(boolean holds) {
        require(holds, new IllegalArgumentException());
    }

    private static void standing(boolean holds) {
        require(holds, new IllegalStateException());
    }

    private static void isIn(int number, int least, int most) {
        index(number >= least && number <= most);
    }

    private Envelope at(int envelope) {
        isIn(envelope, 0, envelopes.size() - 1);
        return envelopes.get(envelope);
    }

    private Envelope at(int envelope, int slot) {
        Envelope e = at(envelope);
        isIn(slot, 0, e.slots.size() - 1);
        return e;
    }

    private static Set<Integer> setOf(int bits) {
        Set<Integer> set = new TreeSet<>();
        for (int n = 0; n < 31; n++) {
            if ((bits & 1 << n) != 0) {
                set.add(n);
            }
        }
        return set;
    }

    public int draft() {
        standing(envelopes.size() < 6);
        envelopes.add(new Envelope());
        return envelopes.size() - 1;
    }

    public int addSlot(int envelope, int person, int before) {
        Envelope e = at(envelope);
        isIn(person, 0, 7);
        argument(before >= 0 && e.numbers().containsAll(setOf(before)));
        standing(e.state() == Signround.DRAFT && e.slots.size() < 8);
        e.slots.add(new Slot(person, setOf(before)));
        return e.slots.size() - 1;
    }

    public int addRound(int envelope, int people) {
        Envelope e = at(envelope);
        argument(people >= 1 && people <= 255);
        standing(e.state() == Signround.DRAFT && e.slots.size() + setOf(people).size() <= 8);
        Set<Integer> before = e.numbers();
        for (int p : setOf(people)) {
            e.slots.add(new Slot(p, before));
        }
        return e.slots.size();
    }

    public void setTimes(int envelope, int pace, int term) {
        Envelope e = at(envelope);
        argument(pace >= 0 && pace <= 30 && term >= 0 && term <= 60);
        standing(e.state() == Signround.DRAFT);
        e.pace = pace;
        e.term = term;
    }

    public int send(int envelope) {
        Envelope e = at(envelope);
        standing(e.state() == Signround.DRAFT && !e.slots.isEmpty());
        e.events.add(new Event(Signround.SENDING, -1, -1, today));
        return e.howManyAre(Signround.OPEN);
    }

    public int sign(int person, int envelope, int slot) {
        int why = whyNot(person, envelope, slot);
        standing(why == 0 || why == 1);
        Envelope e = at(envelope);
        int open = e.howManyAre(Signround.OPEN);
        e.events.add(new Event(why == 0 ? Signround.SIGNING : Signround.SIGNING_FOR, person, slot, today));
        return e.howManyAre(Signround.OPEN) - (open - 1);
    }

    public int whyNot(int person, int envelope, int slot) {
        isIn(person, 0, 7);
        Envelope e = at(envelope, slot);
        int owner = e.slots.get(slot).person;
        if (e.state() != Signround.SENT) {
            return 2;
        }
        if (e.slotState(slot) != Signround.OPEN) {
            return 3;
        }
        if (owner == person) {
            return 0;
        }
        if (delegateToday(owner) != person) {
            return 4;
        }
        return signedFor(owner) < delegates[owner].limit ? 1 : 5;
    }

    public int decline(int person, int envelope, int slot) {
        isIn(person, 0, 7);
        Envelope e = at(envelope, slot);
        standing(e.state() == Signround.SENT && e.slotState(slot) == Signround.OPEN && e.slots.get(slot).person == person);
        return e.closeBy(new Event(Signround.DECLINING, person, slot, today));
    }

    public int cancel(int envelope) {
        Envelope e = at(envelope);
        standing(e.state() == Signround.SENT);
        return e.closeBy(new Event(Signround.VOIDING, -1, -1, today));
    }

    public int delegate(int person, int other, int first, int last, int limit) {
        isIn(person, 0, 7);
        isIn(other, 0, 7);
        argument(person != other && first >= today && last >= first && limit >= 1 && limit <= 9);
        Delegate had = delegates[person];
        delegates[person] = new Delegate(other, first, last, limit);
        return had == null ? -1 : had.other;
    }

    public int revoke(int person) {
        isIn(person, 0, 7);
        Delegate had = delegates[person];
        standing(had != null);
        delegates[person] = null;
        return had.other;
    }

    public int delegateToday(int person) {
        isIn(person, 0, 7);
        Delegate d = delegates[person];
        return d == null || today < d.first || today > d.last ? -1 : d.other;
    }

    public int signedFor(int person) {
        isIn(person, 0, 7);
        int found = 0;
        for (Envelope e : envelopes) {
            for (Event v : e.events) {
                if (v.kind == Signround.SIGNING_FOR && v.day == today && e.slots.get(v.slot).person == person) {
                    found++;
                }
            }
        }
        return found;
    }

    public int toSign(int person) {
        isIn(person, 0, 7);
        int found = 0;
        for (int e = 0; e < envelopes.size(); e++) {
            for (int s : envelopes.get(e).numbers()) {
                found += whyNot(person, e, s) <= 1 ? 1 : 0;
            }
        }
        return found;
    }

    public int pass(int days) {
        argument(days >= 1 && days <= 60);
        int reminders = 0;
        for (int d = 0; d < days; d++) {
            today++;
            for (Envelope e : envelopes) {
                reminders += meetToday(e);
            }
        }
        return reminders;
    }

    private int meetToday(Envelope e) {
        if (e.state() != Signround.SENT) {
            return 0;
        }
        if (e.term > 0 && e.events.get(0).day + e.term == today) {
            e.events.add(new Event(Signround.EXPIRING, -1, -1, today));
            return 0;
        }
        int reminders = 0;
        for (int s : e.numbers()) {
            if (e.isRemindedOf(s, today)) {
                e.events.add(new Event(Signround.REMINDER, e.slots.get(s).person, s, today));
                reminders++;
            }
        }
        return reminders;
    }

    public int today() {
        return today;
    }

    public int nextReminder(int envelope) {
        Envelope e = at(envelope);
        for (int day = today + 1; day <= today + 30; day++) {
            for (int s : e.numbers()) {
                if (e.isRemindedOf(s, day)) {
                    return day;
                }
            }
        }
        return -1;
    }

    public int envelopes() {
        return envelopes.size();
    }

    public int state(int envelope) {
        return at(envelope).state();
    }

    public int slots(int envelope) {
        return at(envelope).slots.size();
    }

    public int slotState(int envelope, int slot) {
        return at(envelope, slot).slotState(slot);
    }

    public int missing(int envelope, int slot) {
        Envelope e = at(envelope, slot);
        return (int) e.slots.get(slot).before.stream().filter(b -> !e.isSigned(b)).count();
    }

    public float share(int envelope) {
        Envelope e = at(envelope);
        float all = e.slots.size();
        return all == 0 ? 0 : (all - e.unsigned().size()) / all;
    }

    public int ahead(int envelope, int slot) {
        Set<Integer> found = new TreeSet<>();
        at(envelope, slot).collectAhead(slot, found);
        return found.size();
    }

    public int roundOf(int envelope, int slot) {
        return at(envelope, slot).round(slot);
    }

    public int orders(int envelope) {
        Envelope e = at(envelope);
        return e.ordersOf(e.numbers());
    }

    public int ordersByAll(int envelope) {
        return orders(envelope);
    }

    public int ordersLeft(int envelope) {
        Envelope e = at(envelope);
        return e.ordersOf(e.unsigned());
    }

    public int events(int envelope) {
        return at(envelope).events.size();
    }

    private Event event(int envelope, int event) {
        Envelope e = at(envelope);
        isIn(event, 0, e.events.size() - 1);
        return e.events.get(event);
    }

    public int kindOf(int envelope, int event) {
        return event(envelope, event).kind;
    }

    public int personOf(int envelope, int event) {
        return event(envelope, event).person;
    }

    public int dayOf(int envelope, int event) {
        return event(envelope, event).day;
    }

    private Envelope behind(int envelope, int events) {
        Envelope e = at(envelope);
        isIn(events, 0, e.events.size());
        return e.behind(events);
    }

    public int seal(int envelope, int events) {
        long sum = 1;
        for (Event v : behind(envelope, events).events) {
            sum = (sum * 31 + v.kind * 7L + (v.person + 1) * 11L + (v.slot + 1) * 13L + v.day * 17L) % 65521;
        }
        return (int) sum;
    }

    public int stateBehind(int envelope, int events) {
        return behind(envelope, events).state();
    }

    public int openBehind(int envelope, int events) {
        Envelope then = behind(envelope, events);
        int set = 0;
        for (int s : then.numbers()) {
            set += then.slotState(s) == Signround.OPEN ? 1 << s : 0;
        }
        return set;
    }
}
