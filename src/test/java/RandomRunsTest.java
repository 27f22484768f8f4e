import java.lang.reflect.InvocationTargetException;
import java.lang.reflect.Method;
import java.util.Arrays;
import java.util.HashMap;
import java.util.Map;
import java.util.Random;
import java.util.TreeMap;
import java.util.TreeSet;

/** Runs of 512 calls, the same each time: Signround and PlainDesk have to answer alike. */
public final class RandomRunsTest {
    private static final int RUNS = 400;
    private static final int CALLS = 512;
    private static final int STEPS_TOLD = 12;

    /** How often a call is made, its name, and a letter for each argument: see argument(). */
    private static final String[] CALLS_MADE = {
        "6 draft", "20 addSlot epb", "6 addRound eP", "6 setTimes eat", "8 send e",
        "40 sign peo", "15 whyNot peo", "2 decline peo", "1 cancel e", "16 delegate ppfgl", "2 revoke p",
        "4 delegateToday p", "6 signedFor p", "6 toSign p",
        "12 pass d", "2 today", "10 nextReminder e",
        "1 envelopes", "5 state e", "3 slots e", "6 slotState es", "6 missing es", "4 share e",
        "4 ahead es", "4 roundOf es", "2 orders e", "2 ordersByAll e", "3 ordersLeft e",
        "4 events e", "6 kindOf ev", "6 personOf ev", "6 dayOf ev", "6 seal ev", "6 stateBehind ev", "6 openBehind ev",
    };
    private static final int[] STRAYS = {-1, 8, -2, 256, 64, Integer.MAX_VALUE, Integer.MIN_VALUE};

    private static final Map<String, TreeSet<String>> answersOf = new TreeMap<>();
    private static final Map<String, Method[]> methodsOf = new HashMap<>();

    private final Random random;
    private final Signround desk = new Signround();
    private final PlainDesk plain = new PlainDesk();
    private final StringBuilder story = new StringBuilder();
    /** A run of its own quickness: in some, days fly; in others, hardly any passes. */
    private final int mostDays;

    private RandomRunsTest(int seed) {
        random = new Random(seed);
        mostDays = new int[] {1, 2, 4, 60}[seed % 4];
    }

    public static void main(String[] args) throws IllegalAccessException {
        String[] bag = bag();
        for (int run = 0; run < RUNS; run++) {
            if (!new RandomRunsTest(run).runs(run, bag)) {
                break;
            }
        }
        reached();
        Check.end();
    }

    private static String[] bag() {
        StringBuilder bag = new StringBuilder();
        for (String call : CALLS_MADE) {
            int space = call.indexOf(' ');
            bag.append((call.substring(space + 1) + "\n").repeat(Integer.parseInt(call.substring(0, space))));
        }
        return bag.toString().split("\n");
    }

    private boolean runs(int run, String[] bag) throws IllegalAccessException {
        for (int n = 0; n < CALLS; n++) {
            String[] call = bag[random.nextInt(bag.length)].split(" ");
            Object[] arguments = arguments(call.length == 1 ? "" : call[1]);
            Method[] methods = methods(call[0], arguments.length);
            Object got = answer(methods[0], desk, arguments);
            Object want = answer(methods[1], plain, arguments);
            story.append(call[0]).append(Arrays.toString(arguments)).append(" -> ").append(want).append('\n');
            answersOf.computeIfAbsent(call[0], k -> new TreeSet<>()).add(want.toString());
            Check.due("run " + run + ", call " + n + ", " + call[0] + Arrays.toString(arguments), got, want);
            if (!got.equals(want)) {
                tellStory();
                return false;
            }
        }
        return true;
    }

    private void tellStory() {
        String[] steps = story.toString().split("\n");
        System.out.println("the last calls, as they are due:");
        for (int n = Math.max(0, steps.length - STEPS_TOLD); n < steps.length; n++) {
            System.out.println("  " + steps[n]);
        }
    }

    private static Method[] methods(String name, int parameters) {
        return methodsOf.computeIfAbsent(name, k -> {
            Class<?>[] ints = new Class<?>[parameters];
            Arrays.fill(ints, int.class);
            try {
                return new Method[] {Signround.class.getMethod(name, ints), PlainDesk.class.getMethod(name, ints)};
            } catch (NoSuchMethodException e) {
                throw new IllegalStateException(e);
            }
        });
    }

    private static Object answer(Method method, Object on, Object[] arguments) throws IllegalAccessException {
        try {
            Object got = method.invoke(on, arguments);
            return got == null ? "nothing" : got;
        } catch (InvocationTargetException e) {
            return e.getCause().getClass().getName();
        }
    }

    private Object[] arguments(String letters) {
        Object[] arguments = new Object[letters.length()];
        int envelope = random.nextInt(Math.max(1, plain.envelopes()));
        int slot = -1;
        for (int a = 0; a < arguments.length; a++) {
            char letter = letters.charAt(a);
            int value = random.nextInt(60) == 0 ? STRAYS[random.nextInt(STRAYS.length)] : argument(letter, envelope);
            if (letter == 'e') {
                envelope = value;
            } else if (letter == 'o') {
                slot = value;
            }
            arguments[a] = value;
        }
        if (slot >= 0 && random.nextInt(3) > 0) {
            arguments[0] = someoneFor(envelope, slot, (Integer) arguments[0]);
        }
        return arguments;
    }

    private int argument(char letter, int envelope) {
        boolean drafted = envelope >= 0 && envelope < plain.envelopes();
        int slots = drafted ? plain.slots(envelope) : 0;
        int today = plain.today();
        switch (letter) {
            case 'e': return envelope;
            case 'p': return random.nextInt(8);
            case 'b': return random.nextInt(1 << slots) & random.nextInt(1 << slots) | (random.nextInt(30) == 0 ? 1 << slots : 0);
            case 'P': return random.nextInt(random.nextBoolean() ? 256 : 16) & random.nextInt(256);
            case 'a': return random.nextInt(random.nextBoolean() ? 32 : 4);
            case 't': return random.nextInt(3) == 0 ? random.nextInt(62) : 0;
            case 'o': return openSlot(envelope, slots);
            case 's': return random.nextInt(slots + 1);
            case 'f': return today + random.nextInt(4) - (random.nextInt(8) == 0 ? 1 : 0);
            case 'g': return today + random.nextInt(8);
            case 'l': return random.nextInt(random.nextBoolean() ? 11 : 3);
            case 'd': return random.nextInt(mostDays) + (random.nextInt(12) == 0 ? 0 : 1);
            case 'v': return random.nextInt((drafted ? plain.events(envelope) : 0) + 2);
            default: throw new IllegalStateException("no such letter: " + letter);
        }
    }

    private int openSlot(int envelope, int slots) {
        int start = random.nextInt(slots + 1);
        if (slots == 0 || random.nextInt(4) == 0) {
            return start;
        }
        for (int n = 0; n < slots; n++) {
            if (plain.slotState(envelope, (start + n) % slots) == Signround.OPEN) {
                return (start + n) % slots;
            }
        }
        return start;
    }

    /** A person who may sign the slot, a delegate rather than its own, or the one at hand. */
    private int someoneFor(int envelope, int slot, int atHand) {
        if (envelope < 0 || envelope >= plain.envelopes() || slot >= plain.slots(envelope)) {
            return atHand;
        }
        int found = atHand;
        for (int p = 0; p < 8; p++) {
            int why = plain.whyNot(p, envelope, slot);
            if (why == 1 || why == 5) {
                return p;
            }
            found = why == 0 ? p : found;
        }
        return found;
    }

    /** Runs that never come to the rare answers would hold nothing of them. */
    private static void reached() {
        Check.due("answers of whyNot", answersOf.get("whyNot"),
                new TreeSet<>(Arrays.asList("0", "1", "2", "3", "4", "5", Check.INDEX.getName())));
        Check.due("answers of state", answersOf.get("state"),
                new TreeSet<>(Arrays.asList("0", "1", "2", "3", "4", "5", Check.INDEX.getName())));
        Check.due("answers of kindOf", answersOf.get("kindOf"),
                new TreeSet<>(Arrays.asList("0", "1", "2", "3", "4", "5", "6", Check.INDEX.getName())));
        Check.due("answers of slotState", answersOf.get("slotState"),
                new TreeSet<>(Arrays.asList("0", "1", "2", "3", Check.INDEX.getName())));
    }
}
