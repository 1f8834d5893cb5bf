/** Promise 8, sentence by sentence, at the bounds of kinds, of above and of below. */
public final class Edges08Share {
    private static final int CALLS = 500;

    public static void main(String[] args) {
        Due due = new Due("edges of promise 8");
        fromNowOn(due);
        noSuchKind(due);
        below(due);
        noughtToOne(due);
        wholeParts(due);
        refusedChangesNothing(due);
        due.end();
    }

    /** Kinds 0 and 1 with shares of 1/4 and 3/4 and rests of the same. */
    private static KegDeposits started() {
        KegDeposits x = Due.object(1, 2);
        x.share(0, 1, 4);
        x.share(1, 3, 4);
        x.sampled(1, 1, 0);
        return x;
    }

    private static void isAsStarted(Due due, String call, KegDeposits x) {
        due.rest(x, 0, 1, 4);
        due.rest(x, 1, 3, 4);
        x.out(1, 1, 1, 0);
        due.done("the shares are one after " + call, x.sampled(1, 1, 0));
        due.rest(x, 0, 1, 2);
        due.rest(x, 1, 1, 2);
    }

    private static void fromNowOn(Due due) {
        due.sentence("The share of a kind is above / below from now on: true");
        KegDeposits x = started();
        due.done("another share", x.share(0, 1, 10_000));
        due.done("the other's", x.share(1, 9999, 10_000));
        due.rest(x, 0, 1, 4);
        due.rest(x, 1, 3, 4);
        x.out(1, 1, 1, 0);
        due.done("a lot", x.sampled(1, 1, 0));
        due.rest(x, 0, 2501, 10_000);
        due.rest(x, 1, 7499, 10_000);
        due.done("the same share again", x.share(0, 2, 20));
        due.done("the same share again", x.share(0, 1, 10));
        due.refused("a lot of 10999 parts", x.sampled(1, 1, 0));
        due.done("the other's", x.share(1, 9, 10));
        due.done("a lot of 10000 parts", x.out(1, 1, 1, 0) && x.sampled(1, 1, 0));
    }

    private static void noSuchKind(Due due) {
        due.sentence("False, refused, when there is no such kind");
        for (int kind : Far.intsOutside(0, 1)) {
            KegDeposits x = started();
            due.refused("kind " + kind, x.share(kind, 1, 2));
            due.refused("kind " + kind, x.share(kind, 0, 1));
            isAsStarted(due, "kind " + kind, x);
        }
        for (int kinds = 0; kinds <= 12; kinds++) {
            KegDeposits x = Due.object(0, kinds);
            due.refused("kind " + kinds + " of " + kinds, x.share(kinds, 0, 1));
            due.refused("kind -1 of " + kinds, x.share(-1, 0, 1));
            for (int kind = 0; kind < kinds; kind++) {
                due.done("kind " + kind + " of " + kinds, x.share(kind, 0, 1));
            }
        }
    }

    private static void below(Due due) {
        due.sentence("False, refused, when below is not 1 .. 10,000");
        for (long below : Far.longsOutside(1, 10_000)) {
            KegDeposits x = started();
            due.refused("0 / " + below, x.share(0, 0, below));
            due.refused("1 / " + below, x.share(0, 1, below));
            due.refused("-1 / " + below, x.share(0, -1, below));
            due.refused(below + " / " + below, x.share(0, below, below));
            due.refused(below / 2 + " / " + below, x.share(0, below / 2, below));
            isAsStarted(due, "below " + below, x);
        }
        for (long below : new long[] {1, 2, 9_999, 10_000}) {
            due.done("0 / " + below, started().share(0, 0, below));
            due.done(below + " / " + below, started().share(0, below, below));
        }
        due.done("1 / 10000", started().share(0, 1, 10_000));
    }

    private static void noughtToOne(Due due) {
        due.sentence("False, refused, when it is not 0 to 1");
        for (long below : new long[] {1, 2, 4, 625, 9_999, 10_000}) {
            for (long above : Far.longsOutside(0, below)) {
                KegDeposits x = started();
                due.refused(above + " / " + below, x.share(0, above, below));
                due.refused(above + " / " + below, x.share(1, above, below));
                isAsStarted(due, above + " / " + below, x);
            }
            KegDeposits none = started();
            due.done("0 / " + below, none.share(0, 0, below));
            due.done("a whole of kind 1", none.share(1, below, below));
            none.out(1, 1, 1, 0);
            due.done("they are one", none.sampled(1, 1, 0));
            due.rest(none, 0, 1, 4);
            due.rest(none, 1, 3, 4);
        }
    }

    private static void wholeParts(Due due) {
        due.sentence("False, refused, when it is not in whole parts of 10,000");
        KegDeposits x = Due.object(1, 1);
        int calls = 2;
        for (long below = 1; below <= 10_000; below++) {
            for (long above : new long[] {0, 1, 2, below / 5, below / 3, below / 2, below - 1, below}) {
                if (calls++ % CALLS == 0) {
                    x = Due.object(1, 1);
                    calls += 2;
                }
                boolean whole = above <= below && wholeParts(above, below);
                due.is(above + " / " + below, x.share(0, above, below) ? 1 : 0, whole ? 1 : 0);
            }
        }
    }

    /** Whether above / below is in whole parts of 10,000, found without a product that could wrap around. */
    private static boolean wholeParts(long above, long below) {
        long left = above;
        for (int digit = 0; digit < 4; digit++) {
            left = left * 10 % below;
        }
        return left == 0;
    }

    private static void refusedChangesNothing(Due due) {
        due.sentence("refused: the share stays as it was");
        long[][] refused = {{1, 3}, {2, 3}, {1, 9_999}, {9_998, 9_999}, {5, 4}, {-1, 4}, {1, 0}, {0, 0}, {1, 10_001},
                {Long.MAX_VALUE, 10_000}, {Long.MIN_VALUE, 1}, {1L << 60, 1}, {(1L << 60) + 1, 4}};
        for (long[] share : refused) {
            for (int kind = 0; kind < 2; kind++) {
                KegDeposits x = started();
                due.refused(share[0] + " / " + share[1], x.share(kind, share[0], share[1]));
                isAsStarted(due, share[0] + " / " + share[1], x);
            }
        }
    }
}
