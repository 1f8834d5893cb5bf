/** Promise 3, sentence by sentence: a kind's number, without prices, its share 0, or FULL. */
public final class Edges03Kind {
    public static void main(String[] args) {
        Due due = new Due("edges of promise 3");
        itsNumber(due);
        withoutPrices(due);
        itsShareIsNought(due);
        full(due);
        fullChangesNothing(due);
        due.end();
    }

    private static void itsNumber(Due due) {
        due.sentence("A kind: its number");
        for (int kinds = 0; kinds < 12; kinds++) {
            KegDeposits x = Due.object(1, kinds);
            due.is("lost before kind " + kinds, x.lost(kinds, 0), KegDeposits.NONE);
            due.refused("out before kind " + kinds, x.out(1, kinds, 1, 0));
            due.is("kind", x.kind(), kinds);
            due.is("lost of kind " + kinds, x.lost(kinds, 0), 0);
            due.is("count of kind " + kinds, x.count(1, kinds), 0);
            due.rest(x, kinds, 0, 1);
            due.done("out of kind " + kinds, x.out(1, kinds, 1, 0));
            due.is("the next one is not there", x.lost(kinds + 1, 0), KegDeposits.NONE);
        }
    }

    private static void withoutPrices(Due due) {
        due.sentence("without prices");
        for (int kinds = 0; kinds < 12; kinds++) {
            KegDeposits x = Due.object(1, kinds);
            for (int kind = 0; kind < kinds; kind++) {
                x.price(kind, 0, 9);
            }
            x.kind();
            x.out(1, kinds, 100_000, 100_000);
            due.is("balance after kind " + kinds + " went out", x.balance(1, 100_000), 0);
            for (int day = 0; day < 20; day++) {
                due.done("price " + day + " of 20", x.price(kinds, day, 1));
            }
            due.refused("the 21st price", x.price(kinds, 20, 1));
        }
    }

    private static void itsShareIsNought(Due due) {
        due.sentence("its share 0");
        KegDeposits x = Due.object(1, 1);
        x.share(0, 1, 1);
        x.out(1, 0, 100, 0);
        for (int kinds = 1; kinds < 12; kinds++) {
            x.kind();
            due.done("sampled with " + (kinds + 1) + " kinds", x.sampled(1, 1, 0));
            due.is("all of it is of kind 0", x.count(1, 0), 100 - kinds);
            due.rest(x, kinds, 0, 1);
        }
    }

    private static void full(Due due) {
        due.sentence("FULL");
        for (int customers = 0; customers <= 23; customers += 23) {
            KegDeposits x = Due.object(customers, 11);
            due.is("the last kind", x.kind(), 11);
            for (int again = 0; again < 450; again++) {
                due.is("one more", x.kind(), KegDeposits.FULL);
            }
        }
    }

    private static void fullChangesNothing(Due due) {
        due.sentence("FULL: what is there stays");
        KegDeposits x = Due.object(1, 12);
        for (int kind = 0; kind < 12; kind++) {
            x.price(kind, 0, kind);
            x.out(1, kind, 10 + kind, 0);
        }
        x.share(0, 1, 4);
        x.share(11, 3, 4);
        x.sampled(1, 1, 0);
        x.kind();
        for (int kind = 0; kind < 12; kind++) {
            long before = x.balance(1, 0);
            due.is("count of kind " + kind, x.count(1, kind), 10 + kind);
            x.out(1, kind, 1, 0);
            due.is("price of kind " + kind, x.balance(1, 0), before - kind);
        }
        due.rest(x, 0, 1, 4);
        due.rest(x, 11, 3, 4);
        due.done("the shares stay", x.sampled(1, 1, 0));
        due.rest(x, 0, 1, 2);
        due.is("a party is given all the same", x.party(), 2);
    }
}
