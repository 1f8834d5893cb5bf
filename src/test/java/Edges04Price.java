/** Promise 4, sentence by sentence, at the bounds of kinds, days, cents and prices. */
public final class Edges04Price {
    public static void main(String[] args) {
        Due due = new Due("edges of promise 4");
        fromADayOn(due);
        givesWay(due);
        noSuchKind(due);
        dayOutOfItsRange(due);
        cents(due);
        twentyPrices(due);
        twentyPricesWithOneOfTheDay(due);
        refusedChangesNothing(due);
        whatWentOutKeepsItsPrice(due);
        due.end();
    }

    /** What a piece costs that goes out on a day. */
    private static long priceOn(KegDeposits x, int kind, long day) {
        long before = x.balance(1, 100_000);
        x.out(1, kind, 1, day);
        return before - x.balance(1, 100_000);
    }

    private static void fromADayOn(Due due) {
        due.sentence("A price of a kind holds from a day on");
        for (long day : new long[] {1, 2, 50_000, 99_999}) {
            KegDeposits x = Due.object(1, 2);
            due.done("price", x.price(0, day, 8));
            due.is("the day before day " + day, priceOn(x, 0, day - 1), 0);
            due.is("day " + day, priceOn(x, 0, day), 8);
            due.is("the other kind", priceOn(x, 1, day), 0);
            due.is("the day after day " + day, priceOn(x, 0, day + 1), 8);
            due.is("the last day", priceOn(x, 0, 100_000), 8);
        }
        KegDeposits first = Due.object(1, 1);
        first.price(0, 0, 8);
        due.is("the first day", priceOn(first, 0, 0), 8);
        KegDeposits last = Due.object(1, 1);
        last.price(0, 100_000, 8);
        due.is("the last day but one", priceOn(last, 0, 99_999), 0);
        due.is("the last day", priceOn(last, 0, 100_000), 8);
    }

    private static void givesWay(Due due) {
        due.sentence("one that was told for that very day gives way to it");
        for (long day : new long[] {0, 1, 100_000}) {
            KegDeposits x = Due.object(1, 1);
            due.done("price", x.price(0, day, 100_000));
            due.done("price", x.price(0, day, 0));
            due.is("the second one, 0", priceOn(x, 0, day), 0);
            due.done("price", x.price(0, day, 100_000));
            due.is("the third one", priceOn(x, 0, day), 100_000);
            due.done("the same once more", x.price(0, day, 100_000));
            due.is("the fourth one", priceOn(x, 0, day), 100_000);
        }
        KegDeposits x = Due.object(1, 2);
        x.price(0, 9, 1);
        x.price(0, 10, 2);
        x.price(0, 11, 3);
        x.price(1, 10, 4);
        x.price(0, 10, 5);
        due.is("the day before stays", priceOn(x, 0, 9), 1);
        due.is("the very day", priceOn(x, 0, 10), 5);
        due.is("the other kind stays", priceOn(x, 1, 10), 4);
        due.is("the day after stays", priceOn(x, 0, 11), 3);
    }

    private static void noSuchKind(Due due) {
        due.sentence("False, refused, when there is no such kind");
        for (int kinds = 0; kinds <= 12; kinds++) {
            for (int kind : Far.intsOutside(0, kinds - 1)) {
                due.refused("kind " + kind + " of " + kinds, Due.object(1, kinds).price(kind, 0, 1));
            }
            KegDeposits x = Due.object(1, kinds);
            for (int kind = 0; kind < kinds; kind++) {
                due.done("kind " + kind + " of " + kinds, x.price(kind, 0, 1));
            }
        }
    }

    private static void dayOutOfItsRange(Due due) {
        due.sentence("False, refused, when the day is out of its range");
        for (long day : Far.longsOutside(0, 100_000)) {
            KegDeposits x = Due.object(1, 1);
            due.refused("day " + day, x.price(0, day, 1));
            due.is("the first day has no price", priceOn(x, 0, 0), 0);
            due.is("the last day neither", priceOn(x, 0, 100_000), 0);
        }
        KegDeposits x = Due.object(1, 1);
        due.done("the first day", x.price(0, 0, 1));
        due.is("the first day has a price", priceOn(x, 0, 0), 1);
        due.is("the last day has no price of its own", priceOn(x, 0, 100_000), 1);
        due.done("the last day", x.price(0, 100_000, 2));
        due.is("the last day has a price of its own", priceOn(x, 0, 100_000), 2);
        due.done("days before the clock too", x.price(0, 99_999, 3));
    }

    private static void cents(Due due) {
        due.sentence("False, refused, when cents are not 0 .. 100,000");
        for (long cents : Far.longsOutside(0, 100_000)) {
            KegDeposits x = Due.object(1, 1);
            x.price(0, 0, 77);
            due.refused(cents + " cents", x.price(0, 0, cents));
            due.refused(cents + " cents of another day", x.price(0, 1, cents));
            due.is("the price stays", priceOn(x, 0, 0), 77);
            due.is("the price stays on the next day", priceOn(x, 0, 1), 77);
        }
        KegDeposits x = Due.object(1, 1);
        for (long cents : new long[] {0, 1, 99_999, 100_000}) {
            due.done(cents + " cents", x.price(0, 0, cents));
            due.is("the price", priceOn(x, 0, 0), cents);
        }
    }

    private static void twentyPrices(Due due) {
        due.sentence("False, refused, when the kind has 20 prices of other days");
        KegDeposits x = Due.object(1, 2);
        for (int told = 0; told < 19; told++) {
            due.done("price " + told, x.price(0, 10 + 2 * told, 100 + told));
            due.done("the same day again is no price more", x.price(0, 10 + 2 * told, 100 + told));
        }
        due.done("the 20th price", x.price(0, 48, 119));
        for (long day : new long[] {0, 9, 11, 47, 49, 100_000}) {
            due.refused("the 21st price, of day " + day, x.price(0, day, 5));
        }
        due.is("no price before day 10", priceOn(x, 0, 9), 0);
        due.is("the price of day 10", priceOn(x, 0, 10), 100);
        due.is("day 11 has none of its own", priceOn(x, 0, 11), 100);
        due.is("the price of day 48", priceOn(x, 0, 48), 119);
        due.is("day 49 has none of its own", priceOn(x, 0, 49), 119);
        due.done("the other kind has its own 20", x.price(1, 0, 5));
    }

    private static void twentyPricesWithOneOfTheDay(Due due) {
        due.sentence("False, refused, when the kind has 20 prices of OTHER days");
        for (int again = 0; again < 20; again++) {
            KegDeposits x = Due.object(1, 1);
            for (int told = 0; told < 20; told++) {
                x.price(0, 10 * told, 100 + told);
            }
            due.done("price " + again + " of 20 gives way", x.price(0, 10 * again, 7));
            due.refused("a 21st day", x.price(0, 10 * again + 1, 8));
            for (int told = 0; told < 20; told++) {
                due.is("day " + 10 * told, priceOn(x, 0, 10 * told), told == again ? 7 : 100 + told);
            }
        }
    }

    private static void refusedChangesNothing(Due due) {
        due.sentence("refused: a price that is refused takes no place of the 20");
        KegDeposits x = Due.object(1, 1);
        for (int told = 0; told < 20; told++) {
            x.price(0, 50 + told, -1);
            x.price(0, 50 + told, 100_001);
            x.price(0, -1 - told, 1);
            x.price(0, 100_001 + told, 1);
        }
        for (int told = 0; told < 20; told++) {
            due.done("price " + told, x.price(0, told, told));
        }
        due.is("the latest price", priceOn(x, 0, 100_000), 19);
    }

    private static void whatWentOutKeepsItsPrice(Due due) {
        due.sentence("What went out keeps its price");
        KegDeposits x = Due.object(2, 1);
        x.price(0, 10, 40);
        x.out(1, 0, 3, 10);
        x.out(2, 0, 3, 10);
        x.price(0, 10, 100_000);
        x.price(0, 0, 6);
        x.price(0, 11, 0);
        due.is("what is owed stays", x.balance(1, 10), -120);
        x.back(1, 0, 3, 11);
        due.is("what is given back", x.balance(1, 11), 0);
        x.share(0, 1, 1);
        x.sampled(2, 2, 11);
        due.is("what a lot gives back", x.balance(2, 11), -40);
        due.is("the house", x.balance(0, 11), 40);
    }
}
