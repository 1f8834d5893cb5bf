/** Promise 7, sentence by sentence, at the bounds of parties, pieces, days, shares and of what a party has. */
public final class Edges07Sampled {
    public static void main(String[] args) {
        Due due = new Due("edges of promise 7");
        partedByShares(due);
        noSuchParty(due);
        theHouse(due);
        pieces(due);
        dayOutOfItsRange(due);
        dayBeforeTheClock(due);
        sharesOfAllKinds(due);
        notSoManyOfSomeKind(due);
        notSoManyByTheRest(due);
        thenNothingChanges(due);
        due.end();
    }

    private static KegDeposits shared(int customers, long... parts) {
        KegDeposits x = Due.object(customers, parts.length);
        for (int kind = 0; kind < parts.length; kind++) {
            x.share(kind, parts[kind], 10_000);
        }
        return x;
    }

    /** Party 1 with much of both kinds at 3 and 7 each and rests of 1/4 and 3/4; the clock at 20. */
    private static KegDeposits started() {
        KegDeposits x = shared(2, 2500, 7500);
        x.price(0, 0, 3);
        x.price(1, 0, 7);
        x.out(1, 0, 100_000, 0);
        x.out(1, 1, 100_000, 20);
        x.sampled(1, 1, 20);
        return x;
    }

    private static void isAsStarted(Due due, String call, KegDeposits x) {
        due.is("balance after " + call, x.balance(1, 100_000), -1_000_000);
        due.is("balance of the house after " + call, x.balance(0, 100_000), 1_000_000);
        due.is("count of kind 0 after " + call, x.count(1, 0), 100_000);
        due.is("count of kind 1 after " + call, x.count(1, 1), 100_000);
        due.rest(x, 0, 1, 4);
        due.rest(x, 1, 3, 4);
        due.done("sampled on day 20 after " + call, x.sampled(1, 1, 20));
        due.rest(x, 0, 1, 2);
        due.rest(x, 1, 1, 2);
        due.is("one of kind 1 came back after " + call, x.balance(1, 20), -999_993);
    }

    private static void partedByShares(Due due) {
        due.sentence("A mixed lot comes back from a party, parted by shares. True");
        for (long n : new long[] {1, 2, 3, 4, 99_999, 100_000}) {
            KegDeposits x = started();
            due.done(n + " pieces", x.sampled(1, n, 50));
            due.is("count of kind 0", x.count(1, 0), 100_000 - (2500 + 2500 * n) / 10_000);
            due.is("count of kind 1", x.count(1, 1), 100_000 - (7500 + 7500 * n) / 10_000);
            due.is("balance before", x.balance(1, 49), -1_000_000);
            due.is("balance", x.balance(1, 50), -3 * x.count(1, 0) - 7 * x.count(1, 1));
        }
        KegDeposits all = shared(1, 0, 10_000, 0);
        all.out(1, 1, 100_000, 0);
        due.done("100000 pieces of one kind", all.sampled(1, 100_000, 0));
        due.is("count", all.count(1, 1), 0);
        due.rest(all, 1, 0, 1);
    }

    private static void noSuchParty(Due due) {
        due.sentence("False, refused, when there is no such party");
        for (int party : Far.intsOutside(0, 2)) {
            KegDeposits x = started();
            due.refused("party " + party, x.sampled(party, 1, 90));
            isAsStarted(due, "party " + party, x);
        }
        KegDeposits x = started();
        due.refused("party 2, which has nothing", x.sampled(2, 4, 90));
        isAsStarted(due, "party 2", x);
        due.done("party 23", shared(23, 5000, 5000).sampled(23, 1, 0));
        due.refused("party 24", shared(24, 5000, 5000).sampled(24, 1, 0));
    }

    private static void theHouse(Due due) {
        due.sentence("False, refused, when it is the house");
        KegDeposits x = started();
        due.refused("the house", x.sampled(0, 1, 90));
        isAsStarted(due, "sampled from the house", x);
        due.refused("no whole piece from the house", shared(1, 5000, 5000).sampled(0, 1, 0));
    }

    private static void pieces(Due due) {
        due.sentence("False, refused, when n is not 1 .. 100,000");
        for (long n : Far.longsOutside(1, 100_000)) {
            KegDeposits x = started();
            due.refused(n + " pieces", x.sampled(1, n, 90));
            isAsStarted(due, n + " pieces", x);
        }
        KegDeposits x = shared(1, 10_000);
        x.out(1, 0, 100_000, 0);
        x.out(1, 0, 100_000, 0);
        due.refused("100001 of 200000", x.sampled(1, 100_001, 0));
        due.done("100000 of 200000", x.sampled(1, 100_000, 0));
        due.done("1 of 100000", x.sampled(1, 1, 0));
        due.refused("0 of 99999", x.sampled(1, 0, 0));
        due.is("count", x.count(1, 0), 99_999);
    }

    private static void dayOutOfItsRange(Due due) {
        due.sentence("False, refused, when the day is out of its range");
        for (long day : Far.longsOutside(0, 100_000)) {
            KegDeposits x = started();
            due.refused("day " + day, x.sampled(1, 1, day));
            isAsStarted(due, "day " + day, x);
        }
        due.done("day 100000", started().sampled(1, 1, 100_000));
        due.refused("day -1 on a new object", shared(1, 5000, 5000).sampled(1, 1, -1));
        due.done("day 0", shared(1, 5000, 5000).sampled(1, 1, 0));
    }

    private static void dayBeforeTheClock(Due due) {
        due.sentence("False, refused, when the day is before the clock");
        for (long day : new long[] {0, 1, 18, 19}) {
            KegDeposits x = started();
            due.refused("day " + day, x.sampled(1, 1, day));
            isAsStarted(due, "day " + day, x);
        }
        due.done("day 20, the clock's", started().sampled(1, 1, 20));
        due.done("day 21", started().sampled(1, 1, 21));
    }

    private static void sharesOfAllKinds(Due due) {
        due.sentence("False, refused, when the shares of all kinds do not sum to one");
        for (int kinds = 1; kinds <= 12; kinds++) {
            for (int last = 0; last < kinds; last++) {
                sharesWithOneOfTheRest(due, kinds, last);
            }
        }
        long[] twelveWholes = new long[12];
        java.util.Arrays.fill(twelveWholes, 10_000);
        due.refused("twelve times one", shared(1, twelveWholes).sampled(1, 1, 0));
        due.refused("twice one", shared(1, 10_000, 10_000).sampled(1, 1, 0));
        due.refused("nothing", shared(1, 0, 0).sampled(1, 1, 0));
    }

    /** Each kind has a share of 800 parts but for one that has what makes them one, or a part less or more. */
    private static void sharesWithOneOfTheRest(Due due, int kinds, int last) {
        long missing = 10_000 - 800 * (kinds - 1);
        for (long parts = missing - 1; parts <= Math.min(10_000, missing + 1); parts++) {
            KegDeposits x = Due.object(1, kinds);
            for (int kind = 0; kind < kinds; kind++) {
                x.share(kind, kind == last ? parts : 800, 10_000);
                x.out(1, kind, 5, 0);
            }
            String call = kinds + " kinds, shares of " + (800 * (kinds - 1) + parts) + " parts";
            due.is(call, x.sampled(1, 1, 0) ? 1 : 0, parts == missing ? 1 : 0);
            if (parts != missing) {
                due.is(call + ": the count stays", x.count(1, last), 5);
                due.rest(x, last, 0, 1);
            }
        }
    }

    private static void notSoManyOfSomeKind(Due due) {
        due.sentence("False, refused, when the party has not so many of some kind");
        for (int few = 0; few < 4; few++) {
            KegDeposits x = shared(2, 2500, 2500, 2500, 2500);
            for (int kind = 0; kind < 4; kind++) {
                x.out(1, kind, kind == few ? 1 : 9, 0);
                x.out(2, kind, 9, 0);
            }
            due.refused("2 of kind " + few + ", of which there is 1", x.sampled(1, 8, 0));
            for (int kind = 0; kind < 4; kind++) {
                due.is("count of kind " + kind, x.count(1, kind), kind == few ? 1 : 9);
                due.rest(x, kind, 0, 1);
            }
            due.done("1 of kind " + few + ", of which there is 1", x.sampled(1, 7, 0));
            for (int kind = 0; kind < 4; kind++) {
                due.is("count of kind " + kind, x.count(1, kind), kind == few ? 0 : 8);
                due.rest(x, kind, 3, 4);
            }
        }
    }

    private static void notSoManyByTheRest(Due due) {
        due.sentence("False, refused, when the party has not so many of some kind: the rest counts");
        KegDeposits x = shared(1, 1, 9999);
        x.out(1, 1, 100_000, 0);
        due.done("9999 parts of kind 0, of which there is none", x.sampled(1, 9999, 0));
        due.rest(x, 0, 9999, 10_000);
        due.refused("one part more", x.sampled(1, 1, 10));
        due.rest(x, 0, 9999, 10_000);
        due.rest(x, 1, 1, 10_000);
        due.is("count of kind 1", x.count(1, 1), 100_000 - 9998);
        x.out(1, 0, 1, 0);
        due.done("one part more, and there is one", x.sampled(1, 1, 0));
        due.is("count of kind 0", x.count(1, 0), 0);
        due.rest(x, 0, 0, 1);
        due.rest(x, 1, 0, 1);
    }

    private static void thenNothingChanges(Due due) {
        due.sentence("then nothing changes, rests neither");
        KegDeposits x = started();
        x.out(2, 0, 1, 20);
        x.out(2, 1, 2, 20);
        due.refused("3 of kind 1, of which party 2 has 2", x.sampled(2, 3, 90));
        due.refused("2 of kind 0, of which party 2 has 1", x.sampled(2, 7, 90));
        x.share(1, 7499, 10_000);
        due.refused("a part too few", x.sampled(1, 1, 90));
        x.share(1, 7500, 10_000);
        due.is("count of party 2, kind 0", x.count(2, 0), 1);
        due.is("count of party 2, kind 1", x.count(2, 1), 2);
        due.is("balance of party 2", x.balance(2, 100_000), -17);
        x.back(2, 0, 1, 20);
        x.back(2, 1, 2, 20);
        isAsStarted(due, "lots of which there is too little", x);
    }
}
