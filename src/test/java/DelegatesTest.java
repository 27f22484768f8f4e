/** Promises 11 to 14. */
public final class DelegatesTest {
    public static void main(String[] args) {
        promise11SetsTheDelegate();
        promise11ReturnsTheOneBefore();
        promise11NoSuchPerson();
        promise11Refuses();
        promise11SeveralApply();
        promise12Revoke();
        promise12Refuses();
        promise13DelegateToday();
        promise14SignedFor();
        promise14ReplacedOrRevoked();
        Check.end();
    }

    private static void promise11SetsTheDelegate() {
        Sentence.holds("11: Sets the delegate of a person", """
                delegate(1, 2, 0, 0, 1) NONE
                delegateToday(1) 2
                delegateToday(2) NONE
                delegateToday(0) NONE
                """);
        Sentence.holds("11: each of two may be the other's", """
                delegate(0, 7, 0, 0, 1) NONE
                delegate(7, 0, 0, 0, 1) NONE
                delegateToday(0) 7
                delegateToday(7) 0
                """);
        Sentence.holds("11: first: the first day, last: the last day", """
                delegate(1, 2, 2, 3, 1) NONE
                delegateToday(1) NONE
                pass(1) 0
                delegateToday(1) NONE
                pass(1) 0
                delegateToday(1) 2
                pass(1) 0
                delegateToday(1) 2
                pass(1) 0
                delegateToday(1) NONE
                """);
        Sentence.holds("11: days as far as there are any", """
                delegate(1, 2, 0, 2147483647, 1) NONE
                delegate(3, 4, 2147483647, 2147483647, 1) NONE
                delegateToday(1) 2
                delegateToday(3) NONE
                pass(60) 0
                delegateToday(1) 2
                delegateToday(3) NONE
                revoke(3) 4
                """);
    }

    private static void promise11ReturnsTheOneBefore() {
        Sentence.holds("11: Returns the delegate that the person had; NONE without one", """
                delegate(1, 2, 0, 0, 1) NONE
                delegate(1, 3, 0, 0, 1) 2
                delegate(1, 3, 0, 0, 2) 3
                delegate(1, 0, 0, 0, 1) 3
                delegate(1, 7, 0, 0, 1) 0
                delegate(2, 7, 0, 0, 1) NONE     // another person
                revoke(1) 7
                delegate(1, 4, 0, 0, 1) NONE
                """);
        Sentence.holds("11: also one for other days than today", """
                delegate(1, 3, 4, 5, 9) NONE
                delegateToday(1) NONE
                delegate(1, 4, 0, 0, 1) 3
                pass(1) 0
                delegateToday(1) NONE
                delegate(1, 5, 1, 1, 1) 4
                pass(3) 0
                delegateToday(1) NONE    // the first one was for this day
                """);
    }

    private static void promise11NoSuchPerson() {
        Sentence.holds("11: IndexOutOfBoundsException if there is no such person", """
                delegate(-1, 1, 0, 0, 1) throws.IndexOutOfBoundsException
                delegate(8, 1, 0, 0, 1) throws.IndexOutOfBoundsException
                delegate(-2147483648, 1, 0, 0, 1) throws.IndexOutOfBoundsException
                delegate(2147483647, 1, 0, 0, 1) throws.IndexOutOfBoundsException
                delegate(0, 1, 0, 0, 1) NONE
                delegate(7, 1, 0, 0, 1) NONE
                """);
        Sentence.holds("11: IndexOutOfBoundsException if there is no such other", """
                delegate(1, -1, 0, 0, 1) throws.IndexOutOfBoundsException
                delegate(1, 8, 0, 0, 1) throws.IndexOutOfBoundsException
                delegate(1, -2147483648, 0, 0, 1) throws.IndexOutOfBoundsException
                delegate(1, 2147483647, 0, 0, 1) throws.IndexOutOfBoundsException
                delegate(1, 0, 0, 0, 1) NONE
                delegate(1, 7, 0, 0, 1) 0
                """);
    }

    private static void promise11Refuses() {
        for (int p = 0; p < 8; p++) {
            Sentence.holds("11: IllegalArgumentException if person and other are the same",
                    "delegate(%1$d, %1$d, 0, 0, 1) throws.IllegalArgumentException".formatted(p));
        }
        Sentence.holds("11: IllegalArgumentException if first is before today", """
                delegate(1, 2, -1, 0, 1) throws.IllegalArgumentException
                delegate(1, 2, -2147483648, 2147483647, 1) throws.IllegalArgumentException
                delegate(1, 2, 0, 0, 1) NONE
                pass(2) 0
                delegate(1, 3, 1, 2, 1) throws.IllegalArgumentException
                delegate(1, 3, 0, 9, 1) throws.IllegalArgumentException
                delegate(1, 3, 2, 2, 1) 2
                """);
        Sentence.holds("11: IllegalArgumentException if last is before first", """
                delegate(1, 2, 3, 4, 5) NONE
                delegate(1, 3, 3, 2, 1) throws.IllegalArgumentException
                delegate(1, 3, 0, -1, 1) throws.IllegalArgumentException
                delegate(1, 3, 0, -2147483648, 1) throws.IllegalArgumentException
                delegate(1, 3, 2147483647, -2147483648, 1) throws.IllegalArgumentException
                delegate(1, 3, 2147483647, 2147483646, 1) throws.IllegalArgumentException
                delegate(1, 3, 3, 3, 1) 2
                """);
        Sentence.holds("11: IllegalArgumentException if limit is out of range: 1 to 9", """
                delegate(1, 2, 1, 4, 5) NONE
                delegate(1, 3, 0, 0, 0) throws.IllegalArgumentException
                delegate(1, 3, 0, 0, 10) throws.IllegalArgumentException
                delegate(1, 3, 0, 0, -1) throws.IllegalArgumentException
                delegate(1, 2, 0, 0, 0) throws.IllegalArgumentException  // also of the delegate that there is
                delegate(1, 2, 0, 0, 10) throws.IllegalArgumentException
                delegate(1, 3, 0, 0, -2147483648) throws.IllegalArgumentException
                delegate(1, 3, 0, 0, 2147483647) throws.IllegalArgumentException
                delegate(1, 3, 0, 0, 1) 2
                delegate(1, 4, 0, 0, 9) 3
                """);
    }

    private static void promise11SeveralApply() {
        Sentence.holds("11: no such person or other ahead of the rest", """
                delegate(8, 8, 0, 0, 1) throws.IndexOutOfBoundsException     // the same too
                delegate(-1, -1, 0, 0, 1) throws.IndexOutOfBoundsException
                delegate(8, 1, -1, 0, 1) throws.IndexOutOfBoundsException
                delegate(8, 1, 1, 0, 1) throws.IndexOutOfBoundsException
                delegate(-1, 1, 0, 0, 0) throws.IndexOutOfBoundsException
                delegate(1, 8, -1, 0, 1) throws.IndexOutOfBoundsException
                delegate(1, 8, 1, 0, 1) throws.IndexOutOfBoundsException
                delegate(1, -1, 0, 0, 10) throws.IndexOutOfBoundsException
                """);
        Sentence.holds("11: two conditions of the same exception", """
                delegate(1, 1, -1, 0, 1) throws.IllegalArgumentException
                delegate(1, 2, -1, -2, 0) throws.IllegalArgumentException
                """);
    }

    private static void promise12Revoke() {
        Sentence.holds("12: Takes the delegate of a person away", Beginnings.FIVE + """
                delegate(1, 2, 0, 9, 3) NONE
                delegate(3, 2, 0, 9, 3) NONE
                revoke(1) 2
                delegateToday(1) NONE
                whyNot(2, 0, 0) 4
                toSign(2) 0
                sign(2, 0, 0) throws.IllegalStateException
                pass(1) 0
                delegateToday(1) NONE
                delegateToday(3) 2       // of that person alone
                """);
        Sentence.holds("12: Returns the delegate that the person had, also one for other days than today", """
                delegate(0, 7, 0, 0, 1) NONE
                delegate(7, 0, 0, 0, 1) NONE
                delegate(1, 3, 4, 5, 1) NONE
                delegate(2, 4, 0, 0, 1) NONE
                delegate(2, 5, 0, 0, 1) 4
                revoke(0) 7
                revoke(1) 3          // for later days
                pass(1) 0
                revoke(2) 5          // for days gone by
                revoke(7) 0
                """);
        Sentence.holds("12: one for later days is away on these too", Beginnings.FIVE + """
                delegate(1, 3, 2, 9, 1) NONE
                revoke(1) 3
                pass(2) 0
                delegateToday(1) NONE
                whyNot(3, 0, 0) 4
                toSign(3) 0
                revoke(1) throws.IllegalStateException
                """);
    }

    private static void promise12Refuses() {
        Sentence.holds("12: IndexOutOfBoundsException if there is no such person", """
                revoke(-1) throws.IndexOutOfBoundsException
                revoke(8) throws.IndexOutOfBoundsException
                revoke(-2147483648) throws.IndexOutOfBoundsException
                revoke(2147483647) throws.IndexOutOfBoundsException
                """);
        Sentence.holds("12: IllegalStateException if the person has none", """
                revoke(0) throws.IllegalStateException
                revoke(7) throws.IllegalStateException
                delegate(0, 7, 0, 0, 1) NONE
                revoke(7) throws.IllegalStateException   // being one is not having one
                revoke(0) 7
                revoke(0) throws.IllegalStateException
                """, Beginnings.FIVE + """
                delegate(1, 2, 0, 0, 1) NONE
                sign(2, 0, 0) 1
                revoke(1) 2
                revoke(1) throws.IllegalStateException
                signedFor(1) 1
                """);
    }

    private static void promise13DelegateToday() {
        Sentence.holds("13: Returns the delegate; NONE if there is none, or not today", """
                delegateToday(7) NONE
                delegate(7, 0, 1, 1, 1) NONE
                delegateToday(7) NONE
                pass(1) 0
                delegateToday(7) 0
                pass(1) 0
                delegateToday(7) NONE
                delegate(0, 7, 2, 2, 1) NONE
                delegateToday(0) 7
                delegateToday(7) NONE
                """);
        Sentence.holds("13: the delegate also when it may sign no more today", Beginnings.FIVE + """
                delegate(1, 3, 0, 0, 1) NONE
                sign(3, 0, 0) 1
                delegateToday(1) 3
                """);
        Sentence.holds("13: IndexOutOfBoundsException if there is no such person", """
                delegateToday(-1) throws.IndexOutOfBoundsException
                delegateToday(8) throws.IndexOutOfBoundsException
                delegateToday(-2147483648) throws.IndexOutOfBoundsException
                delegateToday(2147483647) throws.IndexOutOfBoundsException
                delegateToday(0) NONE
                delegateToday(7) NONE
                """);
    }

    private static void promise14SignedFor() {
        Sentence.holds("14: how many slots were signed in the place of a person today", Beginnings.FIVE + Beginnings.sent(1, 1, 1) + """
                signedFor(1) 0
                delegate(1, 2, 0, 9, 3) NONE
                sign(2, 0, 0) 1
                signedFor(1) 1
                sign(2, 1, 0) 0
                signedFor(1) 2       // in two envelopes
                sign(1, 0, 4) 0
                signedFor(1) 2       // not the person's own
                signedFor(2) 0       // not those that it signed for others
                pass(1) 0
                signedFor(1) 0
                sign(2, 0, 1) 1
                signedFor(1) 1
                """);
        Sentence.holds("14: also of an envelope that ended since", Beginnings.sent(0, 1, 2) + Beginnings.sent(1, 1, 1) + """
                delegate(1, 2, 0, 9, 3) NONE
                sign(2, 1, 0) 0
                sign(2, 0, 0) 0
                state(1) COMPLETED
                cancel(0) 1
                signedFor(1) 2
                """);
        Sentence.holds("14: of each person by itself, and of none on the next day", """
                draft() 0
                addRound(0, 255) 8
                send(0) 8
                delegate(0, 7, 0, 0, 1) NONE
                delegate(7, 0, 0, 0, 1) NONE
                sign(7, 0, 0) 0
                signedFor(0) 1
                signedFor(7) 0
                sign(0, 0, 7) 0
                signedFor(7) 1
                pass(1) 0
                signedFor(0) 0
                signedFor(7) 0
                """);
        Sentence.holds("14: IndexOutOfBoundsException if there is no such person", """
                signedFor(-1) throws.IndexOutOfBoundsException
                signedFor(8) throws.IndexOutOfBoundsException
                signedFor(-2147483648) throws.IndexOutOfBoundsException
                signedFor(2147483647) throws.IndexOutOfBoundsException
                signedFor(0) 0
                signedFor(7) 0
                """);
    }

    private static void promise14ReplacedOrRevoked() {
        Sentence.holds("14: behind another delegate", Beginnings.FIVE + """
                delegate(1, 2, 0, 9, 3) NONE
                sign(2, 0, 0) 1
                delegate(1, 3, 0, 9, 4) 2
                signedFor(1) 1
                sign(3, 0, 1) 1
                signedFor(1) 2
                """);
        Sentence.holds("14: behind a delegate for other days", Beginnings.FIVE + """
                delegate(1, 2, 0, 9, 3) NONE
                sign(2, 0, 0) 1
                delegate(1, 3, 5, 9, 4) 2
                signedFor(1) 1
                """);
        Sentence.holds("14: behind revoke", Beginnings.FIVE + """
                delegate(1, 2, 0, 9, 1) NONE
                sign(2, 0, 0) 1
                revoke(1) 2
                signedFor(1) 1
                delegate(1, 2, 0, 9, 1) NONE
                whyNot(2, 0, 1) 5
                """);
    }
}
