/** Promise 7: a mixed lot is parted by shares; parts of pieces are kept as the kinds' rests. */
public final class Promise07Sampled {
    public static void main(String[] args) {
        Due due = new Due("promise 7");
        partedByShares(due);
        restsAreOfTheKinds(due);
        oldestFirst(due);
        restOutlivesItsShare(due);
        refusals(due);
        sharesThatAreNotOne(due);
        tooFewOfSomeKind(due);
        clock(due);
        largest(due);
        due.end();
    }

    private static KegDeposits parted(int customers, long... tenThousandths) {
        KegDeposits x = Due.object(customers, tenThousandths.length);
        for (int kind = 0; kind < tenThousandths.length; kind++) {
            x.share(kind, tenThousandths[kind], 10_000);
        }
        return x;
    }

    private static void partedByShares(Due due) {
        KegDeposits x = parted(1, 2500, 7500);
        x.price(0, 0, 100);
        x.price(1, 0, 1);
        x.out(1, 0, 10, 0);
        x.out(1, 1, 10, 0);
        due.done("5 pieces", x.sampled(1, 5, 1));
        due.is("one of kind 0", x.count(1, 0), 9);
        due.is("three of kind 1", x.count(1, 1), 7);
        due.rest(x, 0, 1, 4);
        due.rest(x, 1, 3, 4);
        due.is("balance", x.balance(1, 1), -907);
        due.is("balance of the house", x.balance(0, 1), 907);
        due.is("balance of the day before", x.balance(1, 0), -1010);
        due.done("3 pieces", x.sampled(1, 3, 1));
        due.is("one more of kind 0", x.count(1, 0), 8);
        due.is("three more of kind 1", x.count(1, 1), 4);
        due.rest(x, 0, 0, 1);
        due.rest(x, 1, 0, 1);
    }

    private static void restsAreOfTheKinds(Due due) {
        KegDeposits x = parted(2, 5000, 5000);
        x.out(1, 0, 1, 0);
        due.done("a half of each from party 2, which has none", x.sampled(2, 1, 0));
        due.rest(x, 0, 1, 2);
        due.refused("party 1 has none of kind 1", x.sampled(1, 1, 0));
        x.out(1, 1, 1, 0);
        due.done("the other half from party 1", x.sampled(1, 1, 0));
        due.is("count of kind 0", x.count(1, 0), 0);
        due.is("count of kind 1", x.count(1, 1), 0);
        due.rest(x, 0, 0, 1);
    }

    private static void oldestFirst(Due due) {
        KegDeposits x = parted(1, 10_000);
        x.price(0, 0, 9);
        x.out(1, 0, 2, 0);
        x.price(0, 0, 50);
        x.out(1, 0, 2, 0);
        due.done("3 pieces", x.sampled(1, 3, 0));
        due.is("balance", x.balance(1, 0), -50);
    }

    private static void restOutlivesItsShare(Due due) {
        KegDeposits x = parted(1, 9999, 1);
        x.out(1, 0, 5, 0);
        x.out(1, 1, 5, 0);
        due.done("1 piece", x.sampled(1, 1, 0));
        x.share(0, 0, 1);
        x.share(1, 1, 1);
        due.rest(x, 0, 9999, 10_000);
        due.done("2 pieces", x.sampled(1, 2, 0));
        due.rest(x, 0, 9999, 10_000);
        due.rest(x, 1, 1, 10_000);
        due.is("count of kind 0", x.count(1, 0), 5);
        due.is("count of kind 1", x.count(1, 1), 3);
    }

    private static void refusals(Due due) {
        KegDeposits x = parted(1, 10_000);
        x.out(1, 0, 100_000, 0);
        x.out(1, 0, 100_000, 0);
        due.refused("the house", x.sampled(0, 1, 0));
        due.refused("party -1", x.sampled(-1, 1, 0));
        due.refused("party 2", x.sampled(2, 1, 0));
        due.refused("the greatest party", x.sampled(Integer.MAX_VALUE, 1, 0));
        due.refused("no piece", x.sampled(1, 0, 0));
        due.refused("-1 pieces", x.sampled(1, -1, 0));
        due.refused("100001 pieces", x.sampled(1, 100_001, 0));
        due.refused("the most pieces", x.sampled(1, Long.MAX_VALUE, 0));
        due.refused("pieces that wrap around", x.sampled(1, 1L << 60, 0));
        due.refused("day -1", x.sampled(1, 1, -1));
        due.refused("day 100001", x.sampled(1, 1, 100_001));
        due.refused("the least day", x.sampled(1, 1, Long.MIN_VALUE));
        due.is("count stays", x.count(1, 0), 200_000);
        due.done("100000 pieces on day 100000", x.sampled(1, 100_000, 100_000));
        due.is("count", x.count(1, 0), 100_000);
        due.done("one piece", x.sampled(1, 1, 100_000));
        due.refused("one more than it has", x.sampled(1, 100_000, 100_000));
    }

    private static void sharesThatAreNotOne(Due due) {
        KegDeposits x = parted(1, 5000, 4999);
        x.out(1, 0, 10, 0);
        x.out(1, 1, 10, 0);
        due.refused("a part too few", x.sampled(1, 2, 0));
        x.share(1, 5001, 10_000);
        due.refused("a part too many", x.sampled(1, 2, 0));
        x.share(1, 5000, 10_000);
        x.share(0, 1, 1);
        due.refused("one and a half", x.sampled(1, 2, 0));
        x.share(1, 1, 1);
        due.refused("two", x.sampled(1, 2, 0));
        x.share(0, 0, 1);
        due.rest(x, 0, 0, 1);
        due.done("one", x.sampled(1, 2, 0));
        due.is("count of kind 0", x.count(1, 0), 10);
        due.is("count of kind 1", x.count(1, 1), 8);
    }

    private static void tooFewOfSomeKind(Due due) {
        KegDeposits x = parted(2, 5000, 2500, 2500);
        x.price(0, 0, 10);
        x.out(1, 0, 9, 0);
        x.out(1, 1, 9, 0);
        x.out(1, 2, 1, 0);
        x.out(2, 2, 9, 0);
        due.done("3 pieces", x.sampled(1, 3, 0));
        long before = x.balance(1, 0);
        due.refused("2 of kind 2, which has 1", x.sampled(1, 6, 10));
        due.is("count of kind 0", x.count(1, 0), 8);
        due.is("count of kind 1", x.count(1, 1), 9);
        due.is("count of kind 2", x.count(1, 2), 1);
        due.rest(x, 0, 1, 2);
        due.rest(x, 1, 3, 4);
        due.rest(x, 2, 3, 4);
        due.is("balance", x.balance(1, 100_000), before);
        due.done("the clock stands at 0: 5 pieces", x.sampled(1, 4, 0));
        due.is("count of kind 0", x.count(1, 0), 6);
        due.is("count of kind 1", x.count(1, 1), 8);
        due.is("count of kind 2", x.count(1, 2), 0);
    }

    private static void clock(Due due) {
        KegDeposits x = parted(1, 5000, 5000);
        x.out(1, 0, 10, 5);
        x.out(1, 1, 10, 5);
        due.refused("day 4", x.sampled(1, 2, 4));
        due.done("no whole piece on day 9", x.sampled(1, 1, 9));
        due.refused("day 8", x.sampled(1, 2, 8));
        due.refused("out on day 8", x.out(1, 0, 1, 8));
        due.refused("back on day 8", x.back(1, 0, 1, 8));
        due.done("day 9 again", x.sampled(1, 1, 9));
    }

    private static void largest(Due due) {
        KegDeposits x = parted(1, 834, 834, 834, 834, 833, 833, 833, 833, 833, 833, 833, 833);
        for (int kind = 0; kind < 12; kind++) {
            x.price(kind, 0, 100_000);
            x.out(1, kind, 100_000, 0);
        }
        due.is("balance", x.balance(1, 0), -120_000_000_000L);
        due.done("100000 pieces", x.sampled(1, 100_000, 0));
        due.is("balance", x.balance(1, 0), -110_000_000_000L);
        due.is("count of kind 0", x.count(1, 0), 100_000 - 8340);
        due.is("count of kind 11", x.count(1, 11), 100_000 - 8330);
        due.done("99999 pieces", x.sampled(1, 99_999, 0));
        due.rest(x, 0, 4583, 5000);
        due.rest(x, 11, 9167, 10_000);
    }
}
