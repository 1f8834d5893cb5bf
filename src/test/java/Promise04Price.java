/** Promise 4: prices hold from a day on, one a day, at most 20 of a kind. */
public final class Promise04Price {
    public static void main(String[] args) {
        Due due = new Due("promise 4");
        holdsFromItsDay(due);
        toldInAnyOrder(due);
        givesWay(due);
        whatWentOutKeepsItsPrice(due);
        refusals(due);
        refusalsChangeNothing(due);
        atMostTwenty(due);
        leavesTheClock(due);
        due.end();
    }

    private static long priceOn(KegDeposits x, int kind, long day) {
        long before = x.balance(1, 100_000);
        x.out(1, kind, 1, day);
        return before - x.balance(1, 100_000);
    }

    private static void holdsFromItsDay(Due due) {
        KegDeposits x = Due.object(1, 2);
        due.done("price from day 10", x.price(0, 10, 200));
        due.done("price from day 20", x.price(0, 20, 100_000));
        due.done("price from day 30", x.price(0, 30, 0));
        due.done("price from the last day", x.price(0, 100_000, 7));
        due.is("price on day 9", priceOn(x, 0, 9), 0);
        due.is("price on day 10", priceOn(x, 0, 10), 200);
        due.is("price on day 19", priceOn(x, 0, 19), 200);
        due.is("price on day 20", priceOn(x, 0, 20), 100_000);
        due.is("price on day 29", priceOn(x, 0, 29), 100_000);
        due.is("price on day 30", priceOn(x, 0, 30), 0);
        due.is("price of the other kind", priceOn(x, 1, 30), 0);
        due.is("price on day 99999", priceOn(x, 0, 99_999), 0);
        due.is("price on day 100000", priceOn(x, 0, 100_000), 7);
    }

    private static void toldInAnyOrder(Due due) {
        KegDeposits x = Due.object(1, 1);
        due.done("price from day 50", x.price(0, 50, 5));
        due.done("price from day 0", x.price(0, 0, 1));
        due.done("price from day 30", x.price(0, 30, 3));
        due.done("price from day 40", x.price(0, 40, 4));
        due.is("price on day 0", priceOn(x, 0, 0), 1);
        due.is("price on day 35", priceOn(x, 0, 35), 3);
        due.is("price on day 45", priceOn(x, 0, 45), 4);
        due.is("price on day 60", priceOn(x, 0, 60), 5);
    }

    private static void givesWay(Due due) {
        KegDeposits x = Due.object(1, 1);
        x.price(0, 5, 100);
        x.price(0, 6, 110);
        due.done("another price for day 5", x.price(0, 5, 120));
        due.is("price on day 5", priceOn(x, 0, 5), 120);
        due.is("price on day 6", priceOn(x, 0, 6), 110);
        due.done("another price for day 6", x.price(0, 6, 0));
        due.is("a price of 0 holds too", priceOn(x, 0, 6), 0);
    }

    private static void whatWentOutKeepsItsPrice(Due due) {
        KegDeposits x = Due.object(1, 1);
        x.price(0, 0, 10);
        x.out(1, 0, 3, 5);
        due.done("another price for the day", x.price(0, 5, 99));
        due.done("another price for day 0", x.price(0, 0, 98));
        due.is("balance stays", x.balance(1, 5), -30);
        due.done("back", x.back(1, 0, 2, 5));
        due.is("each gave back its own price", x.balance(1, 5), -10);
    }

    private static void refusals(Due due) {
        KegDeposits x = Due.object(1, 1);
        due.refused("kind -1", x.price(-1, 0, 1));
        due.refused("kind 1", x.price(1, 0, 1));
        due.refused("the greatest int", x.price(Integer.MAX_VALUE, 0, 1));
        due.refused("the least int", x.price(Integer.MIN_VALUE, 0, 1));
        due.refused("day -1", x.price(0, -1, 1));
        due.refused("day 100001", x.price(0, 100_001, 1));
        due.refused("the greatest day", x.price(0, Long.MAX_VALUE, 1));
        due.refused("the least day", x.price(0, Long.MIN_VALUE, 1));
        due.refused("a day that is 0 as an int", x.price(0, 1L << 32, 1));
        due.refused("-1 cents", x.price(0, 0, -1));
        due.refused("100001 cents", x.price(0, 0, 100_001));
        due.refused("the most cents", x.price(0, 0, Long.MAX_VALUE));
        due.refused("the least cents", x.price(0, 0, Long.MIN_VALUE));
        due.refused("cents that are 0 as an int", x.price(0, 0, 1L << 32));
        due.done("day 0, 0 cents", x.price(0, 0, 0));
        due.done("day 100000, 100000 cents", x.price(0, 100_000, 100_000));
    }

    private static void refusalsChangeNothing(Due due) {
        KegDeposits x = Due.object(1, 1);
        x.price(0, 0, 10);
        x.price(0, 0, -1);
        x.price(0, 0, 100_001);
        x.price(0, -1, 20);
        due.is("the price stays", priceOn(x, 0, 0), 10);
    }

    private static void atMostTwenty(Due due) {
        KegDeposits x = Due.object(1, 2);
        for (int day = 0; day < 20; day++) {
            due.done("price " + day, x.price(0, day * 2, 100 + day));
        }
        due.refused("the 21st day", x.price(0, 41, 1));
        due.refused("a 21st day between", x.price(0, 1, 1));
        due.done("the first day again", x.price(0, 0, 300));
        due.done("the last day again", x.price(0, 38, 301));
        due.refused("still no 21st day", x.price(0, 41, 1));
        due.done("the other kind has its own 20", x.price(1, 41, 2));
        due.is("price on day 1", priceOn(x, 0, 1), 300);
        due.is("price on day 2", priceOn(x, 0, 2), 101);
        due.is("price on day 41", priceOn(x, 0, 41), 301);
    }

    private static void leavesTheClock(Due due) {
        KegDeposits x = Due.object(1, 1);
        x.price(0, 50, 1);
        due.done("price does not move the clock", x.out(1, 0, 1, 3));
        due.done("price before the clock", x.price(0, 2, 1));
        due.is("price before the clock holds", priceOn(x, 0, 3), 1);
    }
}
