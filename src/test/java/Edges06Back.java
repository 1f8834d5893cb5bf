/** Promise 6, sentence by sentence, at the bounds of parties, kinds, pieces, days and of what a party has. */
public final class Edges06Back {
    public static void main(String[] args) {
        Due due = new Due("edges of promise 6");
        noSuchParty(due);
        theHouse(due);
        noSuchKind(due);
        pieces(due);
        dayOutOfItsRange(due);
        dayBeforeTheClock(due);
        notSoMany(due);
        notSoManyOfTheKind(due);
        due.end();
    }

    /** Party 1 with 100,000 and 100,000 of kind 0 at 3 and 5 each; party 2 with 10 of kind 1; the clock at 20. */
    private static KegDeposits started() {
        KegDeposits x = Due.object(2, 2);
        x.price(0, 0, 3);
        x.price(0, 20, 5);
        x.out(1, 0, 100_000, 10);
        x.out(1, 0, 100_000, 20);
        x.out(2, 1, 10, 20);
        return x;
    }

    private static void isAsStarted(Due due, String call, KegDeposits x) {
        due.is("balance after " + call, x.balance(1, 100_000), -800_000);
        due.is("balance of the house after " + call, x.balance(0, 100_000), 800_000);
        due.is("balance of the other party after " + call, x.balance(2, 100_000), 0);
        due.is("count after " + call, x.count(1, 0), 200_000);
        due.is("count of the other party after " + call, x.count(2, 1), 10);
        due.is("lost after " + call, x.lost(0, 0), 200_000);
        due.done("back on day 20 after " + call, x.back(1, 0, 1, 20));
        due.is("the oldest piece came back after " + call, x.balance(1, 20), -799_997);
    }

    private static void noSuchParty(Due due) {
        due.sentence("False, refused, when there is no such party");
        for (int party : Far.intsOutside(0, 2)) {
            KegDeposits x = started();
            due.refused("party " + party, x.back(party, 0, 1, 90));
            isAsStarted(due, "party " + party, x);
        }
        due.done("party 1", started().back(1, 0, 1, 90));
        due.done("party 2", started().back(2, 1, 1, 90));
        KegDeposits x = Due.object(24, 1);
        x.out(23, 0, 1, 0);
        due.refused("party 24", x.back(24, 0, 1, 0));
        due.done("party 23", x.back(23, 0, 1, 0));
    }

    private static void theHouse(Due due) {
        due.sentence("False, refused, when it is the house");
        KegDeposits x = started();
        due.refused("the house", x.back(0, 0, 1, 90));
        due.is("count of the house", x.count(0, 0), 0);
        isAsStarted(due, "back from the house", x);
    }

    private static void noSuchKind(Due due) {
        due.sentence("False, refused, when there is no such kind");
        for (int kind : Far.intsOutside(0, 1)) {
            KegDeposits x = started();
            due.refused("kind " + kind, x.back(1, kind, 1, 90));
            isAsStarted(due, "kind " + kind, x);
        }
        KegDeposits x = Due.object(1, 13);
        x.out(1, 11, 1, 0);
        due.refused("kind 12", x.back(1, 12, 1, 0));
        due.done("kind 11", x.back(1, 11, 1, 0));
    }

    private static void pieces(Due due) {
        due.sentence("False, refused, when n is not 1 .. 100,000");
        for (long n : Far.longsOutside(1, 100_000)) {
            KegDeposits x = started();
            due.refused(n + " pieces", x.back(1, 0, n, 90));
            isAsStarted(due, n + " pieces", x);
        }
        for (long n : new long[] {1, 2, 99_999, 100_000}) {
            KegDeposits x = started();
            due.done(n + " pieces", x.back(1, 0, n, 90));
            due.is("count", x.count(1, 0), 200_000 - n);
            due.is("balance", x.balance(1, 90), 3 * n - 800_000);
            due.is("balance of the house", x.balance(0, 90), 800_000 - 3 * n);
            due.is("balance before", x.balance(1, 89), -800_000);
        }
    }

    private static void dayOutOfItsRange(Due due) {
        due.sentence("False, refused, when the day is out of its range");
        for (long day : Far.longsOutside(0, 100_000)) {
            KegDeposits x = started();
            due.refused("day " + day, x.back(1, 0, 1, day));
            isAsStarted(due, "day " + day, x);
        }
        due.done("day 100000", started().back(1, 0, 1, 100_000));
        KegDeposits x = Due.object(1, 1);
        x.out(1, 0, 1, 0);
        due.refused("day -1", x.back(1, 0, 1, -1));
        due.done("day 0", x.back(1, 0, 1, 0));
    }

    private static void dayBeforeTheClock(Due due) {
        due.sentence("False, refused, when the day is before the clock");
        for (long day : new long[] {0, 9, 10, 18, 19}) {
            KegDeposits x = started();
            due.refused("day " + day, x.back(1, 0, 1, day));
            isAsStarted(due, "day " + day, x);
        }
        due.done("day 20, the clock's", started().back(1, 0, 1, 20));
        due.done("day 21", started().back(1, 0, 1, 21));
    }

    private static void notSoMany(Due due) {
        due.sentence("False, refused, when the party has not so many of the kind");
        for (long has : new long[] {1, 2, 99_998, 99_999}) {
            KegDeposits x = Due.object(1, 1);
            x.price(0, 0, 4);
            x.out(1, 0, has, 0);
            due.refused("one more than " + has, x.back(1, 0, has + 1, 10));
            due.is("count", x.count(1, 0), has);
            due.is("balance", x.balance(1, 100_000), -4 * has);
            due.refused("100000", x.back(1, 0, 100_000, 10));
            due.done("all " + has + ", the clock stands at 0", x.back(1, 0, has, 0));
            due.is("count", x.count(1, 0), 0);
            due.is("balance", x.balance(1, 0), 0);
            due.refused("one of none", x.back(1, 0, 1, 0));
        }
        due.refused("one of none at all", Due.object(1, 1).back(1, 0, 1, 0));
        KegDeposits x = Due.object(1, 1);
        x.out(1, 0, 3, 0);
        x.out(1, 0, 4, 1);
        x.back(1, 0, 2, 1);
        due.refused("six of five in two layers", x.back(1, 0, 6, 1));
        due.done("five of five in two layers", x.back(1, 0, 5, 1));
    }

    private static void notSoManyOfTheKind(Due due) {
        due.sentence("False, refused, when the PARTY has not so many OF THE KIND");
        KegDeposits x = Due.object(3, 3);
        x.out(1, 0, 5, 0);
        x.out(2, 1, 6, 0);
        for (int party = 1; party <= 3; party++) {
            for (int kind = 0; kind < 3; kind++) {
                long has = party == 1 && kind == 0 ? 5 : party == 2 && kind == 1 ? 6 : 0;
                due.refused("one too many of party " + party + ", kind " + kind, x.back(party, kind, has + 1, 0));
                due.is("count of party " + party + ", kind " + kind, x.count(party, kind), has);
            }
        }
        due.done("5 of party 1, kind 0", x.back(1, 0, 5, 0));
        due.done("6 of party 2, kind 1", x.back(2, 1, 6, 0));
    }
}
