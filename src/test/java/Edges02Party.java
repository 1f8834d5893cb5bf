/** Promise 2, sentence by sentence: a party's number, or FULL. */
public final class Edges02Party {
    public static void main(String[] args) {
        Due due = new Due("edges of promise 2");
        itsNumber(due);
        full(due);
        fullChangesNothing(due);
        due.end();
    }

    private static void itsNumber(Due due) {
        due.sentence("A party: its number");
        for (int customers = 0; customers < 23; customers++) {
            KegDeposits x = Due.object(customers, 1);
            due.is("count before party " + (customers + 1), x.count(customers + 1, 0), KegDeposits.NONE);
            due.refused("out before party " + (customers + 1), x.out(customers + 1, 0, 1, 0));
            due.is("party", x.party(), customers + 1);
            due.is("count of party " + (customers + 1), x.count(customers + 1, 0), 0);
            due.is("balance of party " + (customers + 1), x.balance(customers + 1, 100_000), 0);
            due.done("out to party " + (customers + 1), x.out(customers + 1, 0, 1, 0));
            due.is("the next one is not there", x.count(customers + 2, 0), KegDeposits.NONE);
        }
    }

    private static void full(Due due) {
        due.sentence("FULL");
        for (int kinds = 0; kinds <= 12; kinds += 12) {
            KegDeposits x = Due.object(22, kinds);
            due.is("the last party", x.party(), 23);
            for (int again = 0; again < 450; again++) {
                due.is("one more", x.party(), KegDeposits.FULL);
            }
        }
    }

    private static void fullChangesNothing(Due due) {
        due.sentence("FULL: what is there stays");
        KegDeposits x = Due.object(23, 1);
        x.price(0, 0, 7);
        for (int party = 1; party < 24; party++) {
            x.out(party, 0, party, 0);
        }
        x.party();
        for (int party = 1; party < 24; party++) {
            due.is("count of party " + party, x.count(party, 0), party);
            due.is("balance of party " + party, x.balance(party, 0), -7L * party);
        }
        due.is("balance of the house", x.balance(0, 0), 7 * 23 * 24 / 2);
        due.is("the house has none", x.count(0, 0), 0);
        due.is("a kind is given all the same", x.kind(), 1);
    }
}
