/** Promises 25 to 29. */
public final class OrdersTest {
    public static void main(String[] args) {
        promise25Ahead();
        promise26RoundOf();
        noSuchSlot();
        promises27And28Orders();
        promises27And28WhateverIsSigned();
        promise29OrdersLeft();
        promise29WhateverItsState();
        promises25To28WhateverItsState();
        noSuchEnvelope();
        Check.end();
    }

    /** A draft 0 of slots of person 0, each with a set of slots before it. */
    private static String slots(int... before) {
        StringBuilder run = new StringBuilder("draft() 0\n");
        for (int s = 0; s < before.length; s++) {
            run.append("addSlot(0, 0, " + before[s] + ") " + s + "\n");
        }
        return run.toString();
    }

    private static String chain(int length) {
        int[] before = new int[length];
        for (int s = 1; s < length; s++) {
            before[s] = 1 << s - 1;
        }
        return slots(before);
    }

    private static void promise25Ahead() {
        Sentence.holds("25: 0 without slots before it", slots(0, 0, 0b10) + """
                ahead(0, 0) 0
                ahead(0, 1) 0
                """);
        Sentence.holds("25: those before it, those before these, and so on", slots(0, 1, 0b10, 0, 0b1100) + """
                ahead(0, 1) 1
                ahead(0, 2) 2
                ahead(0, 4) 4
                """, chain(8) + """
                ahead(0, 0) 0
                ahead(0, 1) 1
                ahead(0, 6) 6
                ahead(0, 7) 7
                """);
        Sentence.holds("25: each once", slots(0, 1, 1, 0b110, 0b111, 0b1111) + """
                ahead(0, 3) 3        // slot 0 comes before both of the others
                ahead(0, 4) 3
                ahead(0, 5) 4
                """);
        Sentence.holds("25: whatever is signed", chain(3) + """
                send(0) 1
                sign(0, 0, 0) 1
                ahead(0, 2) 2
                sign(0, 0, 1) 1
                sign(0, 0, 2) 0
                ahead(0, 2) 2
                """);
        Sentence.holds("25: of this envelope", slots(0, 1) + """
                draft() 1
                addSlot(1, 0, 0) 0
                addSlot(1, 0, 0) 1
                ahead(0, 1) 1
                ahead(1, 1) 0
                """);
    }

    private static void promise26RoundOf() {
        Sentence.holds("26: 0 if there is no slot before it", slots(0, 1, 0) + """
                roundOf(0, 0) 0
                roundOf(0, 2) 0
                """);
        Sentence.holds("26: 1 more than the greatest round of these", slots(0, 1, 0b10, 0, 0b1100, 0b10100, 0b1001) + """
                roundOf(0, 1) 1
                roundOf(0, 2) 2
                roundOf(0, 4) 3      // of slot 2, not of the last one before it
                roundOf(0, 5) 4
                roundOf(0, 6) 1
                """, chain(8) + """
                roundOf(0, 6) 6
                roundOf(0, 7) 7
                """);
        Sentence.holds("26: of slots that were added as rounds", """
                draft() 0
                addRound(0, 0b11) 2
                addRound(0, 0b111) 5
                addRound(0, 0b1) 6
                roundOf(0, 0) 0
                roundOf(0, 1) 0
                roundOf(0, 2) 1
                roundOf(0, 4) 1
                roundOf(0, 5) 2
                """);
        Sentence.holds("26: whatever is signed", chain(3) + """
                send(0) 1
                sign(0, 0, 0) 1
                sign(0, 0, 1) 1
                roundOf(0, 0) 0
                roundOf(0, 2) 2
                """);
    }

    private static void noSuchSlot() {
        for (String name : new String[] {"25: ahead", "26: roundOf"}) {
            String call = name.substring(4);
            String line = call + "(%d, %d) throws.IndexOutOfBoundsException\n";
            Sentence.holds(name + " throws IndexOutOfBoundsException if there is no such envelope or slot",
                    line.formatted(0, 0), "draft() 0\n" + line.formatted(0, 0),
                    slots(0, 1) + line.formatted(-1, 0) + line.formatted(1, 0) + line.formatted(6, 0)
                    + line.formatted(Integer.MIN_VALUE, 0) + line.formatted(Integer.MAX_VALUE, 0)
                    + line.formatted(0, -1) + line.formatted(0, 2) + line.formatted(0, 8)
                    + line.formatted(0, Integer.MIN_VALUE) + line.formatted(0, Integer.MAX_VALUE) + call + "(0, 1) 1\n",
                    chain(8) + line.formatted(0, 8) + call + "(0, 7) 7\n",
                    slots(0, 1) + Beginnings.draft(1, 0, 3) + line.formatted(0, 2));
        }
    }

    private static void ordersAre(String slots, int due) {
        Sentence.holds("27: in how many orders all slots of an envelope can be signed, each behind the slots before it",
                slots + "orders(0) " + due);
        Sentence.holds("28: the same", slots + "ordersByAll(0) " + due);
        // A desk may keep what it counted with: it has to begin anew.
        Sentence.holds("27 and 28: the same again", slots + """
                orders(0) %1$d
                ordersByAll(0) %1$d
                orders(0) %1$d
                ordersLeft(0) %1$d
                ordersByAll(0) %1$d
                """.formatted(due));
    }

    private static void promises27And28Orders() {
        ordersAre(slots(), 1);
        ordersAre(slots(0), 1);
        ordersAre(slots(0, 0), 2);
        ordersAre(slots(0, 1), 1);
        ordersAre(slots(0, 0, 1, 0b11), 5);
        ordersAre(slots(0, 0, 0, 0, 0, 0, 0), 5040);
        ordersAre(slots(0, 0, 0, 0, 0, 0, 0, 0), 40320);
        ordersAre(chain(8), 1);
        ordersAre(slots(0, 1, 2, 4, 0, 16, 32, 64), 70);
        ordersAre(slots(0, 1, 1, 1, 1, 1, 1, 1), 5040);
        ordersAre(slots(0, 0, 0, 0, 0, 0, 0, 127), 5040);
        ordersAre(slots(0, 0, 0, 0, 15, 15, 15, 15), 576);
        ordersAre(slots(0, 1, 2, 2, 12, 0, 32, 64), 112);
        ordersAre(slots(0, 0, 0, 1, 2, 4, 24, 48), 252);
        ordersAre(slots(0, 1, 0, 4, 0, 16, 0, 64), 2520);
        ordersAre("draft() 0\naddRound(0, 0b111) 3\naddRound(0, 0b11) 5\naddRound(0, 0b111) 8\n", 72);
    }

    private static void promises27And28WhateverIsSigned() {
        Sentence.holds("27 and 28: all slots, whatever is signed", slots(0, 0, 0) + """
                send(0) 3
                sign(0, 0, 1) 0
                orders(0) 6
                ordersByAll(0) 6
                sign(0, 0, 0) 0
                sign(0, 0, 2) 0
                orders(0) 6
                ordersByAll(0) 6
                """);
        Sentence.holds("27 and 28: of this envelope", slots(0, 0, 0) + """
                draft() 1
                orders(1) 1
                ordersByAll(1) 1
                ordersLeft(1) 1
                orders(0) 6
                ordersByAll(0) 6
                ordersLeft(0) 6
                """);
    }

    private static void promise29OrdersLeft() {
        Sentence.holds("29: in how many orders those slots of an envelope that are not signed can be signed", slots(0, 0, 1, 3, 0) + """
                send(0) 3
                ordersLeft(0) 25
                sign(0, 0, 0) 1
                ordersLeft(0) 12     // 1 ahead of 3; 2 and 4
                sign(0, 0, 4) 0
                ordersLeft(0) 3      // 1 ahead of 3; 2
                sign(0, 0, 1) 1
                ordersLeft(0) 2
                sign(0, 0, 2) 0
                ordersLeft(0) 1      // one is left
                """);
        Sentence.holds("29: 1 if all are signed", Beginnings.COMPLETED + "ordersLeft(0) 1\n", slots(0) + """
                send(0) 1
                sign(0, 0, 0) 0
                ordersLeft(0) 1
                """);
        Sentence.holds("29: 1 without slots", "draft() 0\nordersLeft(0) 1\n");
        Sentence.holds("29: the most", slots(0, 0, 0, 0, 0, 0, 0, 0) + """
                ordersLeft(0) 40320
                send(0) 8
                ordersLeft(0) 40320
                sign(0, 0, 7) 0
                ordersLeft(0) 5040
                sign(0, 0, 0) 0
                ordersLeft(0) 720
                """);
    }

    private static void promise29WhateverItsState() {
        String threeLeft = slots(0, 0, 0, 0).replace("draft() 0\n", "draft() 0\nsetTimes(0, 0, 1)\n") + """
                ordersLeft(0) 24
                send(0) 4
                sign(0, 0, 2) 0
                ordersLeft(0) 6
                """;
        for (String end : new String[] {"decline(0, 0, 0) 3\n", "cancel(0) 3\n", "pass(1) 0\n"}) {
            Sentence.holds("29: as it stands, whatever its state is", threeLeft + end + "ordersLeft(0) 6\n");
        }
    }

    private static void promises25To28WhateverItsState() {
        String bow = slots(0, 0, 1, 0b11).replace("draft() 0\n", "draft() 0\nsetTimes(0, 0, 1)\n");
        String sent = bow + "send(0) 2\nsign(0, 0, 0) 1\n";
        String[] states = {
            bow, bow + "send(0) 2\n", sent, sent + "sign(0, 0, 1) 1\nsign(0, 0, 2) 0\nsign(0, 0, 3) 0\n",
            sent + "decline(0, 0, 1) 3\n", sent + "cancel(0) 3\n", sent + "pass(1) 0\n",
        };
        Sentence.holds("25 to 28: they ask for no state", Sentence.behindEach(states, """
                ahead(0, 0) 0
                ahead(0, 2) 1
                ahead(0, 3) 2
                roundOf(0, 1) 0
                roundOf(0, 3) 1
                orders(0) 5
                ordersByAll(0) 5
                """));
    }

    private static void noSuchEnvelope() {
        for (String call : new String[] {"27: orders", "28: ordersByAll", "29: ordersLeft"}) {
            String line = call.substring(4) + "(%d) throws.IndexOutOfBoundsException\n";
            Sentence.holds(call.substring(0, 4) + "IndexOutOfBoundsException if there is no such envelope", line.formatted(0),
                    Beginnings.SENT + line.formatted(-1) + line.formatted(1) + line.formatted(6)
                    + line.formatted(Integer.MIN_VALUE) + line.formatted(Integer.MAX_VALUE));
        }
    }
}
