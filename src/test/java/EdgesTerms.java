/** 'What it is' and 'Terms': each sentence that names a bound, at the last that is allowed and the first that is not. */
public final class EdgesTerms {
    private static final int OUT = 0;
    private static final int BACK = 1;
    private static final int SAMPLED = 2;
    private static final int SETTLE = 3;
    private static final String[] MOVERS = {"out", "back", "sampled", "settle"};

    public static void main(String[] args) {
        Due due = new Due("terms");
        fiveHundredAndTwelveCalls(due);
        house(due);
        mostParties(due);
        mostKinds(due);
        days(due);
        clockIsNoughtAtFirst(due);
        daysBeforeTheClock(due);
        refusedMovesLeaveTheClock(due);
        otherCallsLeaveTheClock(due);
        priceOfADay(due);
        priceOfTheDayOfALayer(due);
        balances(due);
        greatestBalances(due);
        oldestLayerFirst(due);
        ofOneDayTheFirst(due);
        eachPieceAtItsLayersPrice(due);
        wholePartsOfTenThousand(due);
        lots(due);
        restIsNoughtAtFirst(due);
        due.end();
    }

    private static void fiveHundredAndTwelveCalls(Due due) {
        due.sentence("An object is used for at most 512 calls after it has been made");
        due.is("the 512th call, party", usedFor511Calls().party(), 3);
        due.is("the 512th call, kind", usedFor511Calls().kind(), 1);
        due.done("the 512th call, price", usedFor511Calls().price(0, 1, 1));
        due.refused("the 512th call, price", usedFor511Calls().price(1, 1, 1));
        due.done("the 512th call, out", usedFor511Calls().out(1, 0, 1, 0));
        due.refused("the 512th call, out", usedFor511Calls().out(1, 0, 0, 0));
        due.done("the 512th call, back", usedFor511Calls().back(1, 0, 5, 0));
        due.refused("the 512th call, back", usedFor511Calls().back(1, 0, 6, 0));
        due.done("the 512th call, sampled", usedFor511Calls().sampled(1, 5, 0));
        due.refused("the 512th call, sampled", usedFor511Calls().sampled(1, 6, 0));
        due.done("the 512th call, share", usedFor511Calls().share(0, 1, 2));
        due.refused("the 512th call, share", usedFor511Calls().share(0, 1, 3));
        due.is("the 512th call, balance", usedFor511Calls().balance(1, 0), -50);
        due.is("the 512th call, balance of the house", usedFor511Calls().balance(0, 0), 60);
        due.is("the 512th call, count", usedFor511Calls().count(1, 0), 5);
        due.is("the 512th call, lost", usedFor511Calls().lost(0, 0), 6);
        due.is("the 512th call, settle", usedFor511Calls().settle(1, 2, 0), 1);
        due.is("the 512th call, settle the other way", usedFor511Calls().settle(2, 1, 3333), -1);
        due.is("the 512th call, settle refused", usedFor511Calls().settle(1, 3, 0), -2);
        due.is("the 512th call, rest", usedFor511Calls().rest(0, 1), 1);
        due.is("the 512th call, sum", usedFor511Calls().sum(0), 0);
    }

    private static KegDeposits usedFor511Calls() {
        KegDeposits x = Due.object(2, 1);
        x.price(0, 0, 10);
        x.share(0, 1, 1);
        x.out(1, 0, 5, 0);
        x.out(2, 0, 1, 0);
        for (int call = 8; call <= 511; call += 2) {
            x.back(1, 0, 1, 0);
            x.out(1, 0, 1, 0);
        }
        return x;
    }

    private static void house(Due due) {
        due.sentence("PARTIES are numbered from 0: 0 is the HOUSE, which is there from the beginning");
        KegDeposits x = Due.object(0, 1);
        due.is("the house is a party", x.count(0, 0), 0);
        due.is("party 1 is none yet", x.count(1, 0), KegDeposits.NONE);
        due.is("party -1 is none", x.count(-1, 0), KegDeposits.NONE);
        due.is("the first number given", x.party(), 1);
        due.is("the second number given", x.party(), 2);
    }

    private static void mostParties(Due due) {
        due.sentence("PARTIES are numbered from 0: .. at most 24");
        KegDeposits x = Due.object(22, 1);
        due.is("the 24th party, the house counted", x.party(), 23);
        due.is("the 25th party", x.party(), KegDeposits.FULL);
        due.is("the 24th party is there", x.count(23, 0), 0);
        due.is("the 25th is not", x.count(24, 0), KegDeposits.NONE);
    }

    private static void mostKinds(Due due) {
        due.sentence("KINDS are numbered from 0, at most 12");
        KegDeposits x = new KegDeposits();
        due.is("the first kind", x.kind(), 0);
        for (int number = 1; number < 11; number++) {
            x.kind();
        }
        due.is("the 12th kind", x.kind(), 11);
        due.is("the 13th kind", x.kind(), KegDeposits.FULL);
        due.is("the 12th kind is there", x.lost(11, 0), 0);
        due.is("the 13th is not", x.lost(12, 0), KegDeposits.NONE);
    }

    private static void days(Due due) {
        due.sentence("Days are 0 .. 100,000");
        for (long day : Far.longsOutside(0, 100_000)) {
            due.refused("price on day " + day, stocked(0).price(0, day, 1));
            for (int mover = OUT; mover < SETTLE; mover++) {
                due.refused(MOVERS[mover] + " on day " + day, moves(stocked(0), mover, day));
            }
        }
        for (long day : new long[] {0, 1, 99_999, 100_000}) {
            due.done("price on day " + day, stocked(0).price(0, day, 1));
            for (int mover = OUT; mover < SETTLE; mover++) {
                due.done(MOVERS[mover] + " on day " + day, moves(stocked(0), mover, day));
            }
        }
        for (int month : Far.intsOutside(0, 3333)) {
            due.is("settle on month " + month, stocked(0).settle(1, 2, month), -2);
        }
        for (int month : new int[] {0, 1, 3332, 3333}) {
            due.is("settle on month " + month, stocked(0).settle(1, 2, month), 1);
        }
    }

    /** Two customers with a kind that costs 10, all of a lot is of it, and the first has 100 since a day. */
    private static KegDeposits stocked(long day) {
        KegDeposits x = Due.object(2, 1);
        x.price(0, 0, 10);
        x.share(0, 1, 1);
        x.out(1, 0, 100, day);
        return x;
    }

    /** Whether one of out, back, sampled and settle is done on a day, for settle one of the 30th days. */
    private static boolean moves(KegDeposits x, int mover, long day) {
        return switch (mover) {
            case OUT -> x.out(1, 0, 1, day);
            case BACK -> x.back(1, 0, 1, day);
            case SAMPLED -> x.sampled(1, 1, day);
            default -> x.settle(1, 2, (int) (day / 30)) != -2;
        };
    }

    private static long dayBefore(int mover, long day) {
        return mover == SETTLE ? day - 30 : day - 1;
    }

    private static void clockIsNoughtAtFirst(Due due) {
        due.sentence("The CLOCK is 0 at first");
        KegDeposits x = Due.object(2, 1);
        due.done("out on day 0", x.out(1, 0, 1, 0));
        KegDeposits y = Due.object(2, 1);
        due.is("settle on day 0", y.settle(1, 2, 0), 0);
        KegDeposits z = Due.object(2, 2);
        z.share(0, 1, 2);
        z.share(1, 1, 2);
        due.done("sampled on day 0", z.sampled(1, 1, 0));
        due.is("no day is before the clock by a month", Due.object(0, 1).lost(0, 1), 0);
        KegDeposits untouched = stocked(0);
        due.is("out since day 0, which is 0 months before the clock", untouched.lost(0, 0), 100);
        due.is("not a month", untouched.lost(0, 1), 0);
    }

    private static void daysBeforeTheClock(Due due) {
        due.sentence("The CLOCK is the greatest day of out(), back(), sampled() and settle() that were done;"
                + " these are refused for days before it");
        for (int by = OUT; by <= SETTLE; by++) {
            for (int mover = OUT; mover <= SETTLE; mover++) {
                KegDeposits x = stocked(0);
                String moved = MOVERS[mover] + ", the clock moved by " + MOVERS[by];
                due.done(MOVERS[by] + " on day 60", moves(x, by, 60));
                due.refused(moved + ", on the day before it", moves(x, mover, dayBefore(mover, 60)));
                due.refused(moved + ", on day 0", moves(x, mover, 0));
                due.done(moved + ", on its day", moves(x, mover, 60));
                due.done(moved + ", on a later day", moves(x, mover, 90));
                due.refused(moved + ", then on the day before that", moves(x, mover, dayBefore(mover, 90)));
            }
        }
        KegDeposits x = stocked(61);
        due.is("settle on day 60, the clock is 61", x.settle(1, 2, 2), -2);
        due.is("settle on day 90", x.settle(1, 2, 3), 1);
    }

    private static void refusedMovesLeaveTheClock(Due due) {
        due.sentence("The CLOCK is the greatest day of those that were done");
        for (int mover = OUT; mover <= SETTLE; mover++) {
            KegDeposits x = stocked(30);
            due.refused("out of nothing", x.out(1, 0, 0, 90));
            due.refused("back of too many", x.back(1, 0, 101, 90));
            due.refused("sampled of too many", x.sampled(1, 101, 90));
            due.is("settle with oneself", x.settle(1, 1, 3), -2);
            due.refused("out to the house", x.out(0, 0, 1, 100_000));
            due.refused("back from the house", x.back(0, 0, 1, 100_000));
            due.refused("sampled from the house", x.sampled(0, 1, 100_000));
            due.is("settle with the house", x.settle(0, 1, 3333), -2);
            due.is("the clock stands at 30", x.lost(0, 1), 0);
            due.done(MOVERS[mover] + " on day 30", moves(x, mover, 30));
        }
    }

    private static void otherCallsLeaveTheClock(Due due) {
        due.sentence("The CLOCK is the greatest day of out(), back(), sampled() and settle()");
        KegDeposits x = stocked(30);
        x.price(0, 100_000, 5);
        x.share(0, 1, 1);
        x.balance(1, 100_000);
        x.sum(100_000);
        x.lost(0, 3333);
        x.rest(0, 0);
        x.party();
        x.kind();
        due.is("the clock stands at 30", x.lost(0, 1), 0);
        due.done("out on day 30", x.out(1, 0, 1, 30));
        due.refused("out on day 29", x.out(1, 0, 1, 29));
    }

    private static void priceOfADay(Due due) {
        due.sentence("on a day the price of the latest day not after it holds, 0 when there is none");
        long[] days = {0, 9, 10, 11, 19, 20, 21, 99_999, 100_000};
        long[] prices = {0, 0, 7, 7, 7, 300, 300, 300, 40};
        for (int i = 0; i < days.length; i++) {
            KegDeposits x = Due.object(1, 2);
            x.price(0, 20, 300);
            x.price(0, 100_000, 40);
            x.price(0, 10, 7);
            x.price(1, 0, 55);
            x.out(1, 0, 1, days[i]);
            due.is("price on day " + days[i], x.balance(0, days[i]), prices[i]);
        }
        KegDeposits x = Due.object(1, 1);
        x.out(1, 0, 100_000, 100_000);
        due.is("no price at all", x.balance(1, 100_000), 0);
        x.price(0, 0, 6);
        x.out(1, 0, 1, 100_000);
        due.is("a price of day 0 on the last day", x.balance(1, 100_000), -6);
    }

    private static void priceOfTheDayOfALayer(Due due) {
        due.sentence("What goes out to a party is a LAYER of it: kind, day, number, price of the kind on that day");
        KegDeposits x = Due.object(1, 1);
        x.price(0, 5, 10);
        x.price(0, 6, 1000);
        x.out(1, 0, 2, 4);
        x.out(1, 0, 2, 5);
        x.out(1, 0, 2, 6);
        due.is("balance of day 4", x.balance(1, 4), 0);
        due.is("balance of day 5", x.balance(1, 5), -20);
        due.is("balance of day 6", x.balance(1, 6), -2020);
        x.back(1, 0, 2, 100);
        due.is("the first layer was worth nothing", x.balance(1, 100), -2020);
        x.back(1, 0, 2, 100);
        due.is("the second layer at the price of day 5", x.balance(1, 100), -2000);
        x.back(1, 0, 2, 100);
        due.is("the third layer at the price of day 6", x.balance(1, 100), 0);
    }

    private static void balances(Due due) {
        due.sentence("its BALANCE falls by that, the house's rises");
        KegDeposits x = Due.object(2, 1);
        x.price(0, 0, 9);
        x.out(1, 0, 1, 0);
        due.is("the party's", x.balance(1, 0), -9);
        due.is("the house's", x.balance(0, 0), 9);
        due.is("another party's", x.balance(2, 0), 0);
        due.sentence("the party's balance rises, the house's falls");
        x.out(1, 0, 1, 0);
        x.back(1, 0, 2, 0);
        due.is("the party's", x.balance(1, 0), 0);
        due.is("the house's", x.balance(0, 0), 0);
        due.is("another party's", x.balance(2, 0), 0);
    }

    private static void greatestBalances(Due due) {
        due.sentence("The party owes the house number * price");
        KegDeposits x = Due.object(1, 1);
        x.price(0, 0, 100_000);
        x.out(1, 0, 100_000, 0);
        due.is("the greatest number at the greatest price", x.balance(1, 0), -10_000_000_000L);
        for (int layer = 1; layer < 400; layer++) {
            x.out(1, 0, 100_000, 0);
        }
        due.is("400 times", x.balance(1, 0), -4_000_000_000_000L);
        due.is("400 times, the house", x.balance(0, 0), 4_000_000_000_000L);
        due.is("400 times the greatest number", x.count(1, 0), 40_000_000);
        due.done("the greatest number comes back", x.back(1, 0, 100_000, 0));
        due.is("399 times", x.balance(1, 0), -3_990_000_000_000L);
    }

    private static void oldestLayerFirst(Due due) {
        due.sentence("What comes back is taken from the party's layers of the kind, the oldest first");
        KegDeposits x = Due.object(2, 2);
        x.price(0, 0, 1);
        x.price(0, 2, 100);
        x.price(1, 0, 10_000);
        x.out(2, 0, 1, 0);
        x.out(1, 1, 1, 0);
        x.out(1, 0, 1, 1);
        x.out(1, 0, 1, 2);
        x.back(1, 0, 1, 2);
        due.is("that of day 1 came back", x.balance(1, 2), -10_100);
        due.is("that of day 2 is out", x.lost(0, 0), 2);
        x.back(1, 0, 1, 2);
        due.is("that of day 2 came back", x.balance(1, 2), -10_000);
        due.is("the other party's stays", x.count(2, 0), 1);
        due.is("the other kind stays", x.count(1, 1), 1);
    }

    private static void ofOneDayTheFirst(Due due) {
        due.sentence("of one day that which went out first");
        KegDeposits x = Due.object(1, 1);
        long[] prices = {500, 1, 40};
        for (long price : prices) {
            x.price(0, 0, price);
            x.out(1, 0, 1, 0);
        }
        due.is("all", x.balance(1, 0), -541);
        x.back(1, 0, 1, 0);
        due.is("without the first", x.balance(1, 0), -41);
        x.back(1, 0, 1, 0);
        due.is("without the second", x.balance(1, 0), -40);
    }

    private static void eachPieceAtItsLayersPrice(Due due) {
        due.sentence("each piece gives back the price of its layer");
        KegDeposits x = Due.object(1, 1);
        x.price(0, 0, 3);
        x.price(0, 1, 50);
        x.price(0, 2, 900);
        x.out(1, 0, 10, 0);
        x.out(1, 0, 10, 1);
        x.back(1, 0, 10, 2);
        due.is("just the first layer", x.balance(1, 2), -500);
        x.out(1, 0, 10, 2);
        x.back(1, 0, 11, 2);
        due.is("all of the second, one of the third", x.balance(1, 2), -8100);
        x.back(1, 0, 8, 2);
        due.is("all but one", x.balance(1, 2), -900);
        x.back(1, 0, 1, 2);
        due.is("all", x.balance(1, 2), 0);
    }

    private static void wholePartsOfTenThousand(Due due) {
        due.sentence("SHARES of kinds are told in whole parts of 10,000");
        KegDeposits x = Due.object(1, 2);
        due.done("one part", x.share(0, 1, 10_000));
        due.done("the other parts", x.share(1, 9999, 10_000));
        due.done("they are one", x.sampled(1, 1, 0));
        due.rest(x, 0, 1, 10_000);
        due.refused("half a part", x.share(0, 1, 20_000));
        due.refused("a part and a ninth", x.share(0, 1, 9000));
        due.done("two parts", x.share(0, 1, 5000));
    }

    private static void lots(Due due) {
        due.sentence("A sampled lot of n pieces brings of each kind, in turn, REST + n * share parts,"
                + " of which whole pieces come back, and what is left is the kind's rest");
        KegDeposits x = Due.object(1, 2);
        x.share(0, 1, 10_000);
        x.share(1, 9999, 10_000);
        x.out(1, 0, 50, 0);
        x.out(1, 1, 100_000, 0);
        x.sampled(1, 1, 0);
        due.rest(x, 0, 1, 10_000);
        due.rest(x, 1, 9999, 10_000);
        due.is("9999 parts are no piece", x.count(1, 1), 100_000);
        x.sampled(1, 9998, 0);
        due.rest(x, 0, 9999, 10_000);
        due.rest(x, 1, 1, 10_000);
        due.is("9999 parts are no piece, together neither", x.count(1, 0), 50);
        due.is("9999 + 9998 * 9999 parts", x.count(1, 1), 100_000 - 9998);
        x.sampled(1, 1, 0);
        due.rest(x, 0, 0, 1);
        due.rest(x, 1, 0, 1);
        due.is("10000 parts are a piece", x.count(1, 0), 49);
        due.is("1 + 9999 parts are a piece", x.count(1, 1), 100_000 - 9999);
        x.out(1, 1, 100_000, 0);
        x.sampled(1, 100_000, 0);
        due.is("100000 parts are ten pieces", x.count(1, 0), 39);
        due.is("100000 * 9999 parts", x.count(1, 1), 200_000 - 9999 - 99_990);
        due.rest(x, 1, 0, 1);
    }

    private static void restIsNoughtAtFirst(Due due) {
        due.sentence("the kind's rest (in parts of 10,000; 0 at first)");
        KegDeposits x = Due.object(1, 12);
        for (int kind = 0; kind < 12; kind++) {
            due.rest(x, kind, 0, 1);
        }
        x.share(3, 1, 1);
        due.rest(x, 3, 0, 1);
    }
}
