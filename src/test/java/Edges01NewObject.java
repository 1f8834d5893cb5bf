/** Promise 1, sentence by sentence: a new object is empty. */
public final class Edges01NewObject {
    public static void main(String[] args) {
        Due due = new Due("edges of promise 1");
        theHouseAlone(due);
        noKinds(due);
        noShares(due);
        due.end();
    }

    private static void theHouseAlone(Due due) {
        due.sentence("The house alone");
        KegDeposits x = Due.object(0, 1);
        due.is("the house is there", x.count(0, 0), 0);
        due.is("balance of the house", x.balance(0, Long.MAX_VALUE), 0);
        due.is("sum", x.sum(Long.MAX_VALUE), 0);
        for (int party : Far.intsOutside(0, 0)) {
            x = Due.object(0, 1);
            due.is("party " + party + " is not there", x.count(party, 0), KegDeposits.NONE);
            due.is("balance of party " + party, x.balance(party, 0), 0);
            due.refused("out to party " + party, x.out(party, 0, 1, 0));
        }
        due.is("the first party beside the house", new KegDeposits().party(), 1);
    }

    private static void noKinds(Due due) {
        due.sentence("no kinds");
        KegDeposits x = Due.object(1, 0);
        int[] kinds = {Integer.MIN_VALUE, -1, 0, 1, 11, 12, Integer.MAX_VALUE};
        for (int kind : kinds) {
            due.is("count of kind " + kind, x.count(1, kind), KegDeposits.NONE);
            due.is("lost of kind " + kind, x.lost(kind, 0), KegDeposits.NONE);
            due.is("rest of kind " + kind, x.rest(kind, 0), KegDeposits.NONE);
            due.is("rest of kind " + kind, x.rest(kind, 1), KegDeposits.NONE);
            due.refused("price of kind " + kind, x.price(kind, 0, 0));
            due.refused("share of kind " + kind, x.share(kind, 0, 1));
            due.refused("out of kind " + kind, x.out(1, kind, 1, 0));
            due.refused("back of kind " + kind, x.back(1, kind, 1, 0));
        }
        due.is("parties without kinds settle nothing", Due.object(2, 0).settle(1, 2, 0), 0);
        due.is("the first kind", x.kind(), 0);
    }

    private static void noShares(Due due) {
        due.sentence("no shares");
        for (int kinds = 0; kinds <= 12; kinds++) {
            due.refused("sampled with " + kinds + " kinds", Due.object(1, kinds).sampled(1, 1, 0));
        }
        KegDeposits x = Due.object(1, 12);
        x.out(1, 11, 1, 0);
        x.share(11, 1, 1);
        due.done("one share of one is all", x.sampled(1, 1, 0));
    }
}
