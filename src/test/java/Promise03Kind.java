/** Promise 3: kinds are numbered from 0, at most 12; a new one has no prices and the share 0. */
public final class Promise03Kind {
    public static void main(String[] args) {
        Due due = new Due("promise 3");
        numbers(due);
        noPrices(due);
        shareIsNought(due);
        due.end();
    }

    private static void numbers(Due due) {
        KegDeposits x = new KegDeposits();
        for (int number = 0; number < 12; number++) {
            due.is("not yet kind " + number, x.lost(number, 0), KegDeposits.NONE);
            due.is("kind", x.kind(), number);
            due.is("none of kind " + number + " lost", x.lost(number, 0), 0);
            due.rest(x, number, 0, 1);
        }
        due.is("the 13th kind", x.kind(), KegDeposits.FULL);
        due.is("the 13th kind again", x.kind(), KegDeposits.FULL);
        due.is("there is no kind 12", x.count(0, 12), KegDeposits.NONE);
        due.done("kind 11 has prices", x.price(11, 0, 5));
        due.refused("kind 12 has none", x.price(12, 0, 5));
        due.is("parties go on being numbered by themselves", x.party(), 1);
        due.done("kind 11 goes out", x.out(1, 11, 2, 0));
        due.is("kind 11 is out", x.count(1, 11), 2);
        due.is("kind 10 is not", x.count(1, 10), 0);
    }

    private static void noPrices(Due due) {
        KegDeposits x = Due.object(1, 1);
        x.price(0, 0, 9);
        x.kind();
        due.done("out without a price", x.out(1, 1, 10, 0));
        due.is("nothing owed without a price", x.balance(1, 0), 0);
        due.is("yet it is out", x.count(1, 1), 10);
    }

    private static void shareIsNought(Due due) {
        KegDeposits x = Due.object(1, 1);
        x.out(1, 0, 10, 0);
        x.share(0, 1, 1);
        x.kind();
        due.done("a new kind brings nothing to a lot", x.sampled(1, 4, 0));
        due.is("the first kind came back", x.count(1, 0), 6);
        due.rest(x, 1, 0, 1);
    }
}
