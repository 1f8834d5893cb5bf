/** Promise 8: shares are told as fractions that are whole parts of 10,000. */
public final class Promise08Share {
    public static void main(String[] args) {
        Due due = new Due("promise 8");
        shareOf(due);
        givesWay(due);
        refusals(due);
        refusalsChangeNothing(due);
        due.end();
    }

    /** The share of kind 0 in parts of 10,000, as the rest that one piece of a lot leaves. */
    private static void shareIs(Due due, long above, long below, long restAbove, long restBelow) {
        KegDeposits x = Due.object(1, 2);
        String call = "share(0, " + above + ", " + below + ")";
        due.done(call, x.share(0, above, below));
        due.done("the other share", x.share(1, below - above, below));
        due.done(call + " and its other make one", x.sampled(1, 1, 0));
        due.rest(x, 0, restAbove, restBelow);
    }

    private static void shareOf(Due due) {
        shareIs(due, 1, 2, 1, 2);
        shareIs(due, 3, 6, 1, 2);
        shareIs(due, 1, 4, 1, 4);
        shareIs(due, 7, 16, 7, 16);
        shareIs(due, 2, 625, 2, 625);
        shareIs(due, 1, 10_000, 1, 10_000);
        shareIs(due, 9_999, 10_000, 9_999, 10_000);
        shareIs(due, 333, 999 + 1, 333, 1000);
        shareIs(due, 4998, 9996, 1, 2);
        shareIs(due, 2499, 9996, 1, 4);
    }

    private static void givesWay(Due due) {
        KegDeposits x = Due.object(1, 1);
        x.out(1, 0, 10, 0);
        due.done("all", x.share(0, 1, 1));
        due.done("all of 3", x.share(0, 3, 3));
        due.done("all of 10000", x.share(0, 10_000, 10_000));
        due.done("sampled", x.sampled(1, 1, 0));
        due.done("none", x.share(0, 0, 1));
        due.refused("none is not one", x.sampled(1, 1, 0));
        due.done("none of 7", x.share(0, 0, 7));
        due.done("none of 10000", x.share(0, 0, 10_000));
        due.done("all again", x.share(0, 1, 1));
        due.done("sampled again", x.sampled(1, 1, 0));
        due.is("count", x.count(1, 0), 8);
    }

    private static void refusals(Due due) {
        KegDeposits x = Due.object(1, 1);
        due.refused("kind -1", x.share(-1, 1, 2));
        due.refused("kind 1", x.share(1, 1, 2));
        due.refused("the greatest kind", x.share(Integer.MAX_VALUE, 1, 2));
        due.refused("1 / 0", x.share(0, 1, 0));
        due.refused("0 / 0", x.share(0, 0, 0));
        due.refused("0 / -1", x.share(0, 0, -1));
        due.refused("-1 / -1", x.share(0, -1, -1));
        due.refused("-1 / -2", x.share(0, -1, -2));
        due.refused("1 / 10001", x.share(0, 1, 10_001));
        due.refused("0 / 10001", x.share(0, 0, 10_001));
        due.refused("10000 / 20000", x.share(0, 10_000, 20_000));
        due.refused("0 / the greatest", x.share(0, 0, Long.MAX_VALUE));
        due.refused("0 / the least", x.share(0, 0, Long.MIN_VALUE));
        due.refused("-1 / 2", x.share(0, -1, 2));
        due.refused("-2 / 1", x.share(0, -2, 1));
        due.refused("3 / 2", x.share(0, 3, 2));
        due.refused("2 / 1", x.share(0, 2, 1));
        due.refused("10001 / 10000", x.share(0, 10_001, 10_000));
        due.refused("1 / 3", x.share(0, 1, 3));
        due.refused("2 / 3", x.share(0, 2, 3));
        due.refused("1 / 32", x.share(0, 1, 32));
        due.refused("1 / 9999", x.share(0, 1, 9_999));
        due.refused("1 / 7", x.share(0, 1, 7));
        due.refused("the greatest / 1", x.share(0, Long.MAX_VALUE, 1));
        due.refused("the least / 1", x.share(0, Long.MIN_VALUE, 1));
        due.refused("one that wraps around to 0", x.share(0, 1L << 60, 1));
        due.refused("one that wraps around to less than one", x.share(0, (1L << 60) + 1, 10_000));
        due.done("1 / 16", x.share(0, 1, 16));
        due.done("2 / 32", x.share(0, 2, 32));
    }

    private static void refusalsChangeNothing(Due due) {
        KegDeposits x = Due.object(1, 1);
        x.out(1, 0, 10, 0);
        x.share(0, 1, 1);
        x.share(0, 1, 3);
        x.share(0, 2, 1);
        x.share(0, -1, 1);
        x.share(0, 0, 0);
        x.share(0, 5000, 10_001);
        due.done("the share stays one", x.sampled(1, 1, 0));
        due.is("count", x.count(1, 0), 9);
    }
}
