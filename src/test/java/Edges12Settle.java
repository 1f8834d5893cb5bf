/** Promise 12, sentence by sentence, at the bounds of parties, months, the clock and the half of a cent. */
public final class Edges12Settle {
    public static void main(String[] args) {
        Due due = new Due("edges of promise 12");
        onDayMonthTimesThirty(due);
        pricesThatHoldOnThatDay(due);
        oneHalfRoundedDown(due);
        whoPays(due);
        nothingIsPaid(due);
        noSuchParties(due);
        theHouse(due);
        bothAreOne(due);
        dayOutOfItsRange(due);
        dayBeforeTheClock(due);
        greatest(due);
        due.end();
    }

    /** Parties 1 and 2 with 10 and 4 of a kind that costs 100; the clock at 30. */
    private static KegDeposits started() {
        KegDeposits x = Due.object(3, 1);
        x.price(0, 0, 100);
        x.out(1, 0, 10, 0);
        x.out(2, 0, 4, 30);
        return x;
    }

    private static void isAsStarted(Due due, String call, KegDeposits x) {
        due.is("balance of party 1 after " + call, x.balance(1, 100_000), -1000);
        due.is("balance of party 2 after " + call, x.balance(2, 100_000), -400);
        due.is("balance of party 3 after " + call, x.balance(3, 100_000), 0);
        due.is("balance of the house after " + call, x.balance(0, 100_000), 1400);
        due.is("count after " + call, x.count(1, 0), 10);
        due.is("the clock after " + call, x.lost(0, 1), 10);
        due.is("the clock after " + call, x.lost(0, 2), 0);
        due.is("settle on day 30 after " + call, x.settle(1, 2, 1), 1);
    }

    private static void onDayMonthTimesThirty(Due due) {
        due.sentence("settle on day month * 30");
        for (int month : new int[] {1, 2, 3332, 3333}) {
            KegDeposits x = started();
            due.is("month " + month, x.settle(1, 2, month), 1);
            due.is("balance the day before", x.balance(1, 30L * month - 1), -1000);
            due.is("balance on the day", x.balance(1, 30L * month), -1300);
            due.is("the other's balance the day before", x.balance(2, 30L * month - 1), month == 1 ? 0 : -400);
            due.is("the other's balance on the day", x.balance(2, 30L * month), -100);
            due.is("the house the day after", x.balance(0, 30L * month + 1), 1400);
        }
        KegDeposits x = Due.object(2, 1);
        x.price(0, 0, 2);
        x.out(2, 0, 3, 0);
        due.is("month 0", x.settle(1, 2, 0), -1);
        due.is("balance on day 0", x.balance(1, 0), 3);
        due.is("balance on day -1", x.balance(1, -1), 0);
    }

    private static void pricesThatHoldOnThatDay(Due due) {
        due.sentence("of each the worth of its pieces, by the prices that hold on that day");
        KegDeposits x = Due.object(2, 2);
        x.price(0, 0, 1000);
        x.price(0, 30, 10);
        x.price(0, 31, 5000);
        x.price(0, 60, 0);
        x.price(1, 29, 4);
        x.out(1, 0, 10, 0);
        x.out(2, 1, 10, 0);
        due.is("month 0: 10000 against 0", x.settle(1, 2, 0), 1);
        due.is("balance", x.balance(2, 0), 5000);
        due.is("month 1: 100 against 40", x.settle(1, 2, 1), 1);
        due.is("balance", x.balance(2, 30), 5030);
        due.is("month 2: 0 against 40", x.settle(1, 2, 2), -1);
        due.is("balance", x.balance(2, 60), 5010);
        x.back(1, 0, 10, 60);
        x.back(2, 1, 10, 60);
        due.is("no pieces, no worth", x.settle(1, 2, 3), 0);
    }

    private static void oneHalfRoundedDown(Due due) {
        due.sentence("the one with more pays the other one half of the difference, rounded down");
        for (long difference = 0; difference <= 7; difference++) {
            KegDeposits x = Due.object(2, 1);
            x.price(0, 0, 1);
            x.out(1, 0, 10 + difference, 0);
            x.out(2, 0, 10, 0);
            long half = difference / 2;
            due.is("a has " + difference + " more", x.settle(1, 2, 1), half == 0 ? 0 : 1);
            due.is("balance of a", x.balance(1, 30), -10 - difference - half);
            due.is("balance of b", x.balance(2, 30), -10 + half);
            due.is("b has " + difference + " more", x.settle(2, 1, 2), half == 0 ? 0 : -1);
            due.is("balance of b", x.balance(1, 60), -10 - difference - 2 * half);
            due.is("balance of a", x.balance(2, 60), -10 + 2 * half);
            due.is("the house", x.balance(0, 60), 20 + difference);
            due.is("pieces stay", x.count(1, 0), 10 + difference);
        }
    }

    private static void whoPays(Due due) {
        due.sentence("1 when a pays, -1 when b does");
        due.is("party 1 has more", started().settle(1, 2, 1), 1);
        due.is("party 1 has more", started().settle(2, 1, 1), -1);
        due.is("party 3 has none", started().settle(2, 3, 1), 1);
        due.is("party 3 has none", started().settle(3, 2, 1), -1);
        KegDeposits x = started();
        x.settle(1, 3, 1);
        due.is("its balance falls", x.balance(1, 30), -1500);
        due.is("the other one's rises", x.balance(3, 30), 500);
        due.is("no one else's", x.balance(2, 30), -400);
        due.is("nor the house's", x.balance(0, 30), 1400);
    }

    private static void nothingIsPaid(Due due) {
        due.sentence("0 when nothing is paid (0 cents)");
        KegDeposits x = Due.object(2, 2);
        due.is("two with nothing", x.settle(1, 2, 0), 0);
        x.price(0, 0, 3);
        x.price(1, 0, 1);
        x.out(1, 0, 2, 0);
        x.out(2, 1, 6, 0);
        due.is("two with as much", x.settle(1, 2, 0), 0);
        x.out(1, 1, 1, 0);
        due.is("a has a cent more", x.settle(1, 2, 0), 0);
        due.is("b has a cent more", x.settle(2, 1, 0), 0);
        due.is("balance of party 1", x.balance(1, 0), -7);
        due.is("balance of party 2", x.balance(2, 0), -6);
        x.out(1, 1, 1, 0);
        due.is("a has two cents more", x.settle(1, 2, 0), 1);
        due.is("nothing is paid, but it is done", Due.object(2, 0).settle(1, 2, 3333), 0);
        KegDeposits y = Due.object(2, 1);
        y.settle(1, 2, 1);
        due.refused("the clock is 30", y.out(1, 0, 1, 29));
        due.done("the clock is 30", y.out(1, 0, 1, 30));
    }

    private static void noSuchParties(Due due) {
        due.sentence("-2, refused, when there are no such parties");
        for (int party : Far.intsOutside(0, 3)) {
            KegDeposits x = started();
            due.is("a is " + party, x.settle(party, 1, 3), -2);
            due.is("b is " + party, x.settle(1, party, 3), -2);
            due.is("both are " + party, x.settle(party, party, 3), -2);
            isAsStarted(due, "settle with party " + party, x);
        }
        KegDeposits x = Due.object(24, 0);
        due.is("parties 23 and 24", x.settle(23, 24, 0), -2);
        due.is("parties 24 and 23", x.settle(24, 23, 0), -2);
        due.is("parties 23 and 22", x.settle(23, 22, 0), 0);
    }

    private static void theHouse(Due due) {
        due.sentence("Two different parties that are not the house");
        KegDeposits x = started();
        due.is("a is the house", x.settle(0, 1, 3), -2);
        due.is("b is the house", x.settle(1, 0, 3), -2);
        due.is("both are the house", x.settle(0, 0, 3), -2);
        isAsStarted(due, "settle with the house", x);
    }

    private static void bothAreOne(Due due) {
        due.sentence("-2, refused, when both are one");
        KegDeposits x = started();
        for (int party = 1; party <= 3; party++) {
            due.is("both are " + party, x.settle(party, party, 3), -2);
        }
        isAsStarted(due, "settle with oneself", x);
    }

    private static void dayOutOfItsRange(Due due) {
        due.sentence("-2, refused, when the day is out of its range");
        for (int month : Far.intsOutside(0, 3333)) {
            KegDeposits x = started();
            due.is("month " + month, x.settle(1, 2, month), -2);
            due.is("month " + month, x.settle(2, 1, month), -2);
            isAsStarted(due, "month " + month, x);
            due.is("month " + month + " on a new object", Due.object(2, 0).settle(1, 2, month), -2);
        }
        due.is("month 3333", started().settle(1, 2, 3333), 1);
        due.is("month 0 on a new object", Due.object(2, 0).settle(1, 2, 0), 0);
    }

    private static void dayBeforeTheClock(Due due) {
        due.sentence("-2, refused, when the day is before the clock");
        KegDeposits x = started();
        due.is("month 0, the clock is 30", x.settle(1, 2, 0), -2);
        isAsStarted(due, "month 0", x);
        due.is("month 1 again, the clock is 30", x.settle(1, 2, 1), 1);
        x.back(1, 0, 1, 31);
        due.is("month 1, the clock is 31", x.settle(1, 2, 1), -2);
        due.is("month 2, the clock is 31", x.settle(1, 2, 2), 1);
        x.back(1, 0, 1, 89);
        due.is("month 2, the clock is 89", x.settle(1, 2, 2), -2);
        due.is("month 3, the clock is 89", x.settle(1, 2, 3), 1);
        x.back(1, 0, 1, 99_990);
        due.is("month 3333, the clock is 99990", x.settle(1, 2, 3333), 1);
        x.back(1, 0, 1, 99_991);
        due.is("month 3333, the clock is 99991", x.settle(1, 2, 3333), -2);
        due.is("month 3334, day 100020", x.settle(1, 2, 3334), -2);
    }

    private static void greatest(Due due) {
        due.sentence("of each the worth of its pieces: the greatest");
        for (int rich = 1; rich <= 2; rich++) {
            KegDeposits x = Due.object(2, 12);
            for (int kind = 0; kind < 12; kind++) {
                x.price(kind, 30, 100_000);
            }
            for (int layer = 0; layer < 400; layer++) {
                x.out(rich, layer % 12, 100_000, 0);
            }
            due.is("party " + rich + " has all", x.settle(1, 2, 1), rich == 1 ? 1 : -1);
            due.is("its balance", x.balance(rich, 30), -2_000_000_000_000L);
            due.is("the other one's", x.balance(3 - rich, 30), 2_000_000_000_000L);
            due.is("sum", x.sum(30), 0);
        }
    }
}
