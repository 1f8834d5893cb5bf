/** Promise 10, sentence by sentence, at the bounds of parties and kinds. */
public final class Edges10Count {
    public static void main(String[] args) {
        Due due = new Due("edges of promise 10");
        howMany(due);
        asTheyComeAndGo(due);
        noSuchParty(due);
        noSuchKind(due);
        asksOnly(due);
        due.end();
    }

    /** Each party but the house has 100 * party + kind pieces of each kind. */
    private static KegDeposits stocked(int customers, int kinds) {
        KegDeposits x = Due.object(customers, kinds);
        for (int party = 1; party <= customers; party++) {
            for (int kind = 0; kind < kinds; kind++) {
                x.out(party, kind, 100 * party + kind, 0);
            }
        }
        return x;
    }

    private static void howMany(Due due) {
        due.sentence("How many pieces of a kind a party has");
        KegDeposits x = stocked(23, 6);
        for (int party = 1; party < 24; party++) {
            for (int kind = 0; kind < 6; kind++) {
                due.is("count(" + party + ", " + kind + ")", x.count(party, kind), 100 * party + kind);
            }
        }
        due.is("the house has none", x.count(0, 5), 0);
        KegDeposits y = stocked(6, 12);
        for (int party = 1; party <= 6; party++) {
            for (int kind = 0; kind < 12; kind++) {
                due.is("count(" + party + ", " + kind + ")", y.count(party, kind), 100 * party + kind);
            }
        }
    }

    private static void asTheyComeAndGo(Due due) {
        due.sentence("How many pieces of a kind a party has: after each move");
        KegDeposits x = Due.object(2, 2);
        x.price(0, 0, 10);
        x.share(0, 1, 1);
        due.is("none", x.count(1, 0), 0);
        x.out(1, 0, 100_000, 0);
        due.is("after out", x.count(1, 0), 100_000);
        x.out(1, 0, 1, 0);
        due.is("after another out", x.count(1, 0), 100_001);
        x.back(1, 0, 100_000, 1);
        due.is("after back", x.count(1, 0), 1);
        x.out(1, 0, 9, 2);
        x.sampled(1, 4, 3);
        due.is("after sampled", x.count(1, 0), 6);
        x.settle(1, 2, 1);
        due.is("settle moves no piece", x.count(1, 0), 6);
        due.is("settle moves no piece to the other", x.count(2, 0), 0);
        x.back(1, 0, 6, 30);
        due.is("after all came back", x.count(1, 0), 0);
        due.is("the other kind", x.count(1, 1), 0);
    }

    private static void noSuchParty(Due due) {
        due.sentence("NONE when there is no such party");
        for (int party : Far.intsOutside(0, 2)) {
            KegDeposits x = stocked(2, 2);
            due.is("party " + party, x.count(party, 0), KegDeposits.NONE);
            due.is("party " + party, x.count(party, 1), KegDeposits.NONE);
            due.is("party " + party + " and no kind", x.count(party, 2), KegDeposits.NONE);
        }
        for (int customers = 0; customers < 24; customers++) {
            KegDeposits x = stocked(customers, 1);
            due.is("party " + customers, x.count(customers, 0), 100 * customers);
            due.is("party " + (customers + 1), x.count(customers + 1, 0), KegDeposits.NONE);
        }
    }

    private static void noSuchKind(Due due) {
        due.sentence("NONE when there is no such kind");
        for (int kind : Far.intsOutside(0, 1)) {
            KegDeposits x = stocked(2, 2);
            due.is("kind " + kind, x.count(1, kind), KegDeposits.NONE);
            due.is("kind " + kind, x.count(2, kind), KegDeposits.NONE);
            due.is("kind " + kind + " of the house", x.count(0, kind), KegDeposits.NONE);
        }
        for (int kinds = 1; kinds <= 12; kinds++) {
            KegDeposits x = stocked(1, kinds);
            due.is("kind " + (kinds - 1), x.count(1, kinds - 1), 99 + kinds);
            due.is("kind " + kinds, x.count(1, kinds), KegDeposits.NONE);
        }
    }

    private static void asksOnly(Due due) {
        due.sentence("count only asks");
        KegDeposits x = stocked(2, 2);
        for (int again = 0; again < 100; again++) {
            due.is("again", x.count(2, 1), 201);
            due.is("of nothing again", x.count(3, 1), KegDeposits.NONE);
        }
        due.is("the next party", x.party(), 3);
        due.is("the next kind", x.kind(), 2);
    }
}
