/** Promise 14, sentence by sentence: what one party's balance falls by another one's rises by, on any day. */
public final class Edges14Sum {
    public static void main(String[] args) {
        Due due = new Due("edges of promise 14");
        ofAllParties(due);
        upToTheEndOfADay(due);
        greatest(due);
        asksOnly(due);
        due.end();
    }

    private static void ofAllParties(Due due) {
        due.sentence("The balances of all parties together");
        due.is("the house alone", new KegDeposits().sum(0), 0);
        for (int customers = 1; customers < 24; customers++) {
            KegDeposits x = moved(customers);
            due.is("sum with " + customers + " customers", x.sum(100_000), 0);
            due.is("balances with " + customers + " customers", balances(x, 100_000), 0);
        }
    }

    /** Every customer takes and brings back, and settles with the one before it. */
    private static KegDeposits moved(int customers) {
        KegDeposits x = Due.object(customers, 2);
        x.price(0, 0, 11);
        x.price(1, 0, 101);
        x.share(0, 1, 2);
        x.share(1, 1, 2);
        for (int party = 1; party <= customers; party++) {
            x.out(party, 0, 5 + party, 30 * party);
            x.out(party, 1, 40 + 2 * party, 30 * party);
            x.sampled(party, 3, 30 * party);
            x.settle(party, party - 1, party);
            x.back(party, 0, 2, 30 * party + 1);
        }
        return x;
    }

    private static long balances(KegDeposits x, long day) {
        long cents = 0;
        for (int party = 0; party < 24; party++) {
            cents += x.balance(party, day);
        }
        return cents;
    }

    private static void upToTheEndOfADay(Due due) {
        due.sentence("by all that was done up to the end of a day");
        for (long day : Far.longs()) {
            due.is("sum on day " + day, moved(5).sum(day), 0);
        }
        for (long day = -1; day <= 160; day++) {
            KegDeposits x = moved(5);
            due.is("sum on day " + day, x.sum(day), 0);
            due.is("balances on day " + day, balances(x, day), 0);
        }
        due.is("the balances are not 0 each", moved(5).balance(5, 160) == 0 ? 1 : 0, 0);
    }

    private static void greatest(Due due) {
        due.sentence("The balances of all parties together: the greatest");
        KegDeposits x = Due.object(23, 1);
        x.price(0, 0, 100_000);
        for (int layer = 0; layer < 400; layer++) {
            x.out(1 + layer % 23, 0, 100_000, layer);
        }
        due.is("the house", x.balance(0, 399), 4_000_000_000_000L);
        for (long day : new long[] {-1, 0, 1, 398, 399, 400, 99_999, 100_000, 100_001, Long.MIN_VALUE, Long.MAX_VALUE}) {
            due.is("sum on day " + day, x.sum(day), 0);
        }
    }

    private static void asksOnly(Due due) {
        due.sentence("sum only asks");
        KegDeposits x = moved(2);
        long before = x.balance(1, 61);
        for (int again = 0; again < 100; again++) {
            due.is("again", x.sum(61), 0);
        }
        due.is("the balance stays", x.balance(1, 61), before);
        due.done("the clock stays at 61", x.out(1, 0, 1, 61));
    }
}
