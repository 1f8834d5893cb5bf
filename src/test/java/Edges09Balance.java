/** Promise 9, sentence by sentence, at the bounds of parties and days. */
public final class Edges09Balance {
    public static void main(String[] args) {
        Due due = new Due("edges of promise 9");
        upToTheEndOfADay(due);
        anyDay(due);
        noughtWhenThereIsNone(due);
        refusedMoves(due);
        asksOnly(due);
        due.end();
    }

    /** On the days 10, 20, 30 and 40 one of out, back, settle and sampled in turn; parties 1 and 2, the house. */
    private static KegDeposits moved() {
        KegDeposits x = Due.object(2, 1);
        x.price(0, 0, 100);
        x.share(0, 1, 1);
        x.out(1, 0, 10, 10);
        x.back(1, 0, 2, 20);
        x.settle(1, 2, 1);
        x.sampled(1, 3, 40);
        return x;
    }

    private static void upToTheEndOfADay(Due due) {
        due.sentence("by all that was done up to the end of a day");
        long[] days = {0, 9, 10, 11, 19, 20, 21, 29, 30, 31, 39, 40, 41, 100_000};
        long[] first = {0, 0, -1000, -1000, -1000, -800, -800, -800, -1200, -1200, -1200, -900, -900, -900};
        long[] second = {0, 0, 0, 0, 0, 0, 0, 0, 400, 400, 400, 400, 400, 400};
        KegDeposits x = moved();
        for (int i = 0; i < days.length; i++) {
            due.is("balance of party 1 on day " + days[i], x.balance(1, days[i]), first[i]);
            due.is("balance of party 2 on day " + days[i], x.balance(2, days[i]), second[i]);
            due.is("balance of the house on day " + days[i], x.balance(0, days[i]), -first[i] - second[i]);
        }
        KegDeposits y = Due.object(1, 1);
        y.price(0, 0, 1);
        for (int n = 1; n <= 100; n++) {
            y.out(1, 0, n, 7);
        }
        due.is("all of a day", y.balance(1, 7), -5050);
        due.is("nothing of the day before", y.balance(1, 6), 0);
        KegDeposits z = Due.object(1, 1);
        z.price(0, 0, 1);
        z.out(1, 0, 1, 0);
        z.out(1, 0, 2, 100_000);
        due.is("before the first day", z.balance(1, -1), 0);
        due.is("the first day", z.balance(1, 0), -1);
        due.is("the last day but one", z.balance(1, 99_999), -1);
        due.is("the last day", z.balance(1, 100_000), -3);
    }

    private static void anyDay(Due due) {
        due.sentence("by all that was done up to the end of a day: nothing before day 0, all after day 100,000");
        for (long day : Far.longs()) {
            KegDeposits x = moved();
            long first = day < 10 ? 0 : day < 20 ? -1000 : day < 30 ? -800 : day < 40 ? -1200 : -900;
            long second = day < 30 ? 0 : 400;
            due.is("balance of party 1 on day " + day, x.balance(1, day), first);
            due.is("balance of party 2 on day " + day, x.balance(2, day), second);
            due.is("balance of the house on day " + day, x.balance(0, day), -first - second);
        }
    }

    private static void noughtWhenThereIsNone(Due due) {
        due.sentence("0 when there is none");
        for (int party : Far.intsOutside(0, 2)) {
            KegDeposits x = moved();
            for (long day : new long[] {Long.MIN_VALUE, 0, 10, 100_000, Long.MAX_VALUE}) {
                due.is("balance of party " + party, x.balance(party, day), 0);
            }
        }
        KegDeposits x = moved();
        due.is("balance of party 3", x.balance(3, 100_000), 0);
        x.party();
        due.is("balance of party 3, which is there now", x.balance(3, 100_000), 0);
        KegDeposits full = Due.object(23, 1);
        full.price(0, 0, 1);
        full.out(23, 0, 9, 0);
        due.is("balance of party 23", full.balance(23, 0), -9);
        due.is("balance of party 24", full.balance(24, 0), 0);
        due.is("balance of the house alone", new KegDeposits().balance(0, 0), 0);
    }

    private static void refusedMoves(Due due) {
        due.sentence("by all that was DONE");
        KegDeposits x = moved();
        x.out(1, 0, 0, 50);
        x.out(1, 0, 1, 39);
        x.out(1, 1, 1, 50);
        x.back(1, 0, 6, 50);
        x.back(2, 0, 1, 50);
        x.sampled(1, 6, 50);
        x.settle(1, 2, 1);
        x.settle(1, 3, 2);
        x.settle(1, 2, 3334);
        due.is("balance of party 1", x.balance(1, 100_000), -900);
        due.is("balance of party 2", x.balance(2, 100_000), 400);
        due.is("balance of the house", x.balance(0, 100_000), 500);
    }

    private static void asksOnly(Due due) {
        due.sentence("balance only asks");
        KegDeposits x = moved();
        for (int again = 0; again < 100; again++) {
            due.is("again", x.balance(1, 40), -900);
            due.is("an earlier day again", x.balance(1, 10), -1000);
        }
        due.done("the clock stands at 40", x.out(1, 0, 1, 40));
    }
}
