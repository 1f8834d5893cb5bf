/** Promise 9: the balance of a party by all that was done up to the end of a day. */
public final class Promise09Balance {
    public static void main(String[] args) {
        Due due = new Due("promise 9");
        upToTheEndOfADay(due);
        noParty(due);
        everyMove(due);
        due.end();
    }

    private static void upToTheEndOfADay(Due due) {
        KegDeposits x = Due.object(1, 1);
        x.price(0, 0, 10);
        x.out(1, 0, 1, 5);
        x.out(1, 0, 2, 5);
        x.out(1, 0, 4, 9);
        x.back(1, 0, 3, 100_000);
        long[] days = {Long.MIN_VALUE, -1, 0, 4, 5, 6, 8, 9, 10, 99_999, 100_000, 100_001, Long.MAX_VALUE};
        long[] owed = {0, 0, 0, 0, 30, 30, 30, 70, 70, 70, 40, 40, 40};
        for (int i = 0; i < days.length; i++) {
            due.is("balance(1, " + days[i] + ")", x.balance(1, days[i]), -owed[i]);
            due.is("balance(0, " + days[i] + ")", x.balance(0, days[i]), owed[i]);
        }
    }

    private static void noParty(Due due) {
        KegDeposits x = Due.object(1, 1);
        x.price(0, 0, 10);
        x.out(1, 0, 1, 0);
        due.is("party -1", x.balance(-1, 0), 0);
        due.is("party 2", x.balance(2, 0), 0);
        due.is("party 23", x.balance(23, 0), 0);
        due.is("party 24", x.balance(24, 0), 0);
        due.is("the greatest party", x.balance(Integer.MAX_VALUE, 0), 0);
        due.is("the least party", x.balance(Integer.MIN_VALUE, 0), 0);
    }

    private static void everyMove(Due due) {
        KegDeposits x = Due.object(2, 1);
        x.price(0, 0, 10);
        x.share(0, 1, 1);
        x.out(1, 0, 9, 1);
        x.back(1, 0, 1, 2);
        x.sampled(1, 2, 3);
        due.is("settle", x.settle(1, 2, 1), 1);
        due.is("after out", x.balance(1, 1), -90);
        due.is("after back", x.balance(1, 2), -80);
        due.is("after sampled", x.balance(1, 3), -60);
        due.is("before settle", x.balance(1, 29), -60);
        due.is("after settle", x.balance(1, 30), -90);
        due.is("the other one after settle", x.balance(2, 30), 30);
        due.is("the house after settle", x.balance(0, 30), 60);
    }
}
