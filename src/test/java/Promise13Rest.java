/** Promise 13: the rest of a kind as a reduced fraction of a piece. */
public final class Promise13Rest {
    public static void main(String[] args) {
        Due due = new Due("promise 13");
        reduced(due);
        wrongInputs(due);
        due.end();
    }

    private static long divisorOf(long one, long other) {
        long divisor = one;
        while (one % divisor != 0 || other % divisor != 0) {
            divisor--;
        }
        return divisor;
    }

    private static void reduced(Due due) {
        for (long parts = 1; parts < 10_000; parts++) {
            KegDeposits x = Due.object(1, 2);
            x.share(0, parts, 10_000);
            x.share(1, 10_000 - parts, 10_000);
            due.done("sampled with " + parts, x.sampled(1, 1, 0));
            long divisor = divisorOf(parts, 10_000);
            due.rest(x, 0, parts / divisor, 10_000 / divisor);
            due.rest(x, 1, (10_000 - parts) / divisor, 10_000 / divisor);
        }
    }

    private static void wrongInputs(Due due) {
        KegDeposits x = Due.object(1, 1);
        due.rest(x, 0, 0, 1);
        x.share(0, 1, 1);
        x.out(1, 0, 5, 0);
        x.sampled(1, 5, 0);
        due.rest(x, 0, 0, 1);
        due.is("part 2", x.rest(0, 2), KegDeposits.NONE);
        due.is("part -1", x.rest(0, -1), KegDeposits.NONE);
        due.is("the greatest part", x.rest(0, Integer.MAX_VALUE), KegDeposits.NONE);
        due.is("the least part", x.rest(0, Integer.MIN_VALUE), KegDeposits.NONE);
        due.is("kind 1, part 0", x.rest(1, 0), KegDeposits.NONE);
        due.is("kind 1, part 1", x.rest(1, 1), KegDeposits.NONE);
        due.is("kind 12", x.rest(12, 0), KegDeposits.NONE);
        due.is("kind -1", x.rest(-1, 1), KegDeposits.NONE);
        due.is("the greatest kind", x.rest(Integer.MAX_VALUE, 0), KegDeposits.NONE);
        due.is("the least kind", x.rest(Integer.MIN_VALUE, 0), KegDeposits.NONE);
    }
}
