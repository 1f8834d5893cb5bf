/** Promise 10: how many pieces of a kind a party has. */
public final class Promise10Count {
    public static void main(String[] args) {
        Due due = new Due("promise 10");
        KegDeposits x = Due.object(2, 2);
        due.is("none yet", x.count(1, 0), 0);
        x.out(1, 0, 100_000, 0);
        x.out(1, 0, 100_000, 3);
        x.out(1, 1, 7, 3);
        x.out(2, 0, 5, 3);
        due.is("two layers", x.count(1, 0), 200_000);
        due.is("the other kind", x.count(1, 1), 7);
        due.is("the other party", x.count(2, 0), 5);
        due.is("none of this kind", x.count(2, 1), 0);
        due.is("the house", x.count(0, 0), 0);
        x.back(1, 0, 100_000, 100_000);
        x.back(1, 0, 1, 100_000);
        due.is("after back", x.count(1, 0), 99_999);
        x.share(1, 1, 1);
        x.sampled(1, 2, 100_000);
        due.is("after sampled", x.count(1, 1), 5);
        x.out(2, 1, 3, 100_000);
        due.is("on the last day", x.count(2, 1), 3);
        due.is("party -1", x.count(-1, 0), KegDeposits.NONE);
        due.is("party 3", x.count(3, 0), KegDeposits.NONE);
        due.is("party 24", x.count(24, 0), KegDeposits.NONE);
        due.is("the greatest party", x.count(Integer.MAX_VALUE, 0), KegDeposits.NONE);
        due.is("the least party", x.count(Integer.MIN_VALUE, 0), KegDeposits.NONE);
        due.is("kind -1", x.count(1, -1), KegDeposits.NONE);
        due.is("kind 2", x.count(1, 2), KegDeposits.NONE);
        due.is("kind 12", x.count(1, 12), KegDeposits.NONE);
        due.is("the greatest kind", x.count(0, Integer.MAX_VALUE), KegDeposits.NONE);
        due.is("neither", x.count(3, 2), KegDeposits.NONE);
        due.end();
    }
}
