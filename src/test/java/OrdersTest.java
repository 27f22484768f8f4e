/** Promises 25 to 29. */
public final class OrdersTest {
    public static void main(String[] args) {
        promise25Ahead();
        promise26RoundOf();
        promises27And28Orders();
        promise29OrdersLeft();
        Check.end();
    }

    private static Signround desk(int... before) {
        Signround desk = new Signround();
        desk.draft();
        for (int set : before) {
            desk.addSlot(0, 0, set);
        }
        return desk;
    }

    private static void promise25Ahead() {
        Signround desk = desk(0, 1, 2, 2, 12, 0, 32, 64);
        int[] due = {0, 1, 2, 2, 4, 0, 1, 2};
        for (int s = 0; s < 8; s++) {
            Check.due("ahead of " + s, desk.ahead(0, s), due[s]);
        }
        desk.send(0);
        desk.sign(0, 0, 0);
        Check.due("whatever is signed", desk.ahead(0, 4), 4);
        Check.due("a chain", desk(0, 1, 2, 4, 8, 16, 32, 64).ahead(0, 7), 7);
        Check.refuses("slot 8", desk, Check.INDEX, () -> desk.ahead(0, 8));
        Check.refuses("slot -1", desk, Check.INDEX, () -> desk.ahead(0, -1));
        Check.refuses("envelope 1", desk, Check.INDEX, () -> desk.ahead(1, 0));
        Check.refuses("envelope -1", desk, Check.INDEX, () -> desk.ahead(-1, 0));
    }

    private static void promise26RoundOf() {
        Signround desk = desk(0, 1, 2, 1, 12, 0, 33, 16);
        int[] due = {0, 1, 2, 1, 3, 0, 1, 4};
        for (int s = 0; s < 8; s++) {
            Check.due("round of " + s, desk.roundOf(0, s), due[s]);
        }
        Check.due("a chain", desk(0, 1, 2, 4, 8, 16, 32, 64).roundOf(0, 7), 7);
        Signround rounds = new Signround();
        rounds.draft();
        rounds.addRound(0, 3);
        rounds.addRound(0, 7);
        rounds.addRound(0, 1);
        Check.due("the first round", rounds.roundOf(0, 1), 0);
        Check.due("the second", rounds.roundOf(0, 2), 1);
        Check.due("the third", rounds.roundOf(0, 5), 2);
        Check.refuses("slot 8", desk, Check.INDEX, () -> desk.roundOf(0, 8));
        Check.refuses("slot -1", desk, Check.INDEX, () -> desk.roundOf(0, -1));
        Check.refuses("envelope 1", desk, Check.INDEX, () -> desk.roundOf(1, 0));
        Check.refuses("envelope -1", desk, Check.INDEX, () -> desk.roundOf(-1, 0));
    }

    private static void promises27And28Orders() {
        ordersAre(1);
        ordersAre(1, 0);
        ordersAre(2, 0, 0);
        ordersAre(1, 0, 1);
        ordersAre(5, 0, 0, 1, 3);
        ordersAre(40320, 0, 0, 0, 0, 0, 0, 0, 0);
        ordersAre(1, 0, 1, 2, 4, 8, 16, 32, 64);
        ordersAre(70, 0, 1, 2, 4, 0, 16, 32, 64);
        ordersAre(5040, 0, 1, 1, 1, 1, 1, 1, 1);
        ordersAre(5040, 0, 0, 0, 0, 0, 0, 0, 127);
        ordersAre(576, 0, 0, 0, 0, 15, 15, 15, 15);
        Signround desk = desk(0, 0, 0);
        desk.send(0);
        desk.sign(0, 0, 1);
        Check.due("orders, whatever is signed", desk.orders(0), 6);
        Check.due("ordersByAll, whatever is signed", desk.ordersByAll(0), 6);
        Check.refuses("orders of envelope 1", desk, Check.INDEX, () -> desk.orders(1));
        Check.refuses("orders of envelope -1", desk, Check.INDEX, () -> desk.orders(-1));
        Check.refuses("ordersByAll of envelope 1", desk, Check.INDEX, () -> desk.ordersByAll(1));
        Check.refuses("ordersByAll of envelope -1", desk, Check.INDEX, () -> desk.ordersByAll(-1));
    }

    private static void ordersAre(int due, int... before) {
        Signround desk = desk(before);
        // Twice, since the desk counts in a row that it keeps.
        for (int n = 0; n < 2; n++) {
            Check.due("orders", desk.orders(0), due);
            Check.due("ordersByAll", desk.ordersByAll(0), due);
            Check.due("ordersLeft of a draft", desk.ordersLeft(0), due);
        }
    }

    private static void promise29OrdersLeft() {
        Signround desk = desk(0, 0, 1, 3, 0);
        Check.due("a draft", desk.ordersLeft(0), desk.orders(0));
        desk.send(0);
        desk.sign(0, 0, 0);
        Check.due("1 ahead of 3, 2 and 4 free", desk.ordersLeft(0), 12);
        desk.sign(0, 0, 4);
        Check.due("1 ahead of 3, 2 free", desk.ordersLeft(0), 3);
        desk.sign(0, 0, 1);
        Check.due("2 and 3", desk.ordersLeft(0), 2);
        desk.sign(0, 0, 2);
        Check.due("one left", desk.ordersLeft(0), 1);
        desk.sign(0, 0, 3);
        Check.due("none left", desk.ordersLeft(0), 1);
        Signround voided = desk(0, 0, 0, 0);
        voided.send(0);
        voided.sign(0, 0, 2);
        voided.cancel(0);
        Check.due("voided", voided.ordersLeft(0), 6);
        Check.due("without slots", desk().ordersLeft(0), 1);
        Check.refuses("envelope 1", desk, Check.INDEX, () -> desk.ordersLeft(1));
        Check.refuses("envelope -1", desk, Check.INDEX, () -> desk.ordersLeft(-1));
    }
}
