/** Promise 14: the balances of all parties together, which what one owes another leaves at 0. */
public final class Promise14Sum {
    public static void main(String[] args) {
        Due due = new Due("promise 14");
        KegDeposits x = afterAllMoves();
        for (long day = -1; day < 70; day++) {
            due.is("sum(" + day + ")", x.sum(day), 0);
        }
        due.is("sum(100000)", x.sum(100_000), 0);
        due.is("the sum of the least day", x.sum(Long.MIN_VALUE), 0);
        due.is("the sum of the greatest day", x.sum(Long.MAX_VALUE), 0);
        for (long day = 20; day < 30; day++) {
            due.is("sum(" + day + ") of the balances", x.sum(day), sumOfBalances(x, day));
        }
        due.end();
    }

    private static KegDeposits afterAllMoves() {
        KegDeposits x = Due.object(23, 2);
        x.price(0, 0, 11);
        x.price(1, 0, 70);
        x.price(0, 20, 13);
        x.share(0, 1, 2);
        x.share(1, 1, 2);
        for (int party = 1; party < 24; party++) {
            x.out(party, party % 2, 10 + party, party);
        }
        x.back(3, 1, 4, 25);
        x.out(4, 1, 3, 25);
        x.sampled(4, 5, 26);
        x.settle(5, 6, 1);
        x.settle(23, 22, 2);
        return x;
    }

    private static long sumOfBalances(KegDeposits x, long day) {
        long cents = 0;
        for (int party = 0; party < 24; party++) {
            cents += x.balance(party, day);
        }
        return cents;
    }
}
