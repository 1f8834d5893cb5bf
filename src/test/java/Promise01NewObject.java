/** Promise 1: the house alone; no kinds; no shares. */
public final class Promise01NewObject {
    public static void main(String[] args) {
        Due due = new Due("promise 1");
        nothingButTheHouse(due);
        noShares(due);
        objectsAreApart(due);
        due.end();
    }

    private static void nothingButTheHouse(Due due) {
        KegDeposits x = new KegDeposits();
        due.is("count without kinds", x.count(0, 0), KegDeposits.NONE);
        due.is("lost without kinds", x.lost(0, 0), KegDeposits.NONE);
        due.is("rest without kinds", x.rest(0, 0), KegDeposits.NONE);
        due.refused("price without kinds", x.price(0, 0, 1));
        due.refused("share without kinds", x.share(0, 1, 1));
        due.is("balance of the house", x.balance(0, 100_000), 0);
        due.is("sum", x.sum(100_000), 0);
        due.is("settle", x.settle(1, 2, 0), -2);
        due.is("first kind", x.kind(), 0);
        due.is("the house has none", x.count(0, 0), 0);
        due.is("there is no party 1", x.count(1, 0), KegDeposits.NONE);
        due.refused("out to no party", x.out(1, 0, 1, 0));
        due.is("first party", x.party(), 1);
        due.is("party 1 has none", x.count(1, 0), 0);
        due.done("the clock begins at 0", x.out(1, 0, 1, 0));
    }

    private static void noShares(Due due) {
        KegDeposits x = Due.object(1, 0);
        due.refused("sampled without kinds", x.sampled(1, 1, 0));
        x.kind();
        due.refused("sampled without shares", x.sampled(1, 1, 0));
        due.rest(x, 0, 0, 1);
    }

    private static void objectsAreApart(Due due) {
        KegDeposits x = Due.object(2, 2);
        x.price(0, 0, 7);
        x.out(1, 0, 3, 50);
        KegDeposits y = new KegDeposits();
        due.is("another object's first party", y.party(), 1);
        due.is("another object's first kind", y.kind(), 0);
        due.is("another object's count", y.count(1, 0), 0);
        due.is("another object's balance", y.balance(0, 100_000), 0);
        due.done("another object's clock", y.out(1, 0, 3, 0));
        due.is("another object's price", y.balance(1, 0), 0);
        due.is("the first object's balance stays", x.balance(1, 50), -21);
    }
}
