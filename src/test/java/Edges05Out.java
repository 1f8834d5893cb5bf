/** Promise 5, sentence by sentence, at the bounds of parties, kinds, pieces, days and layers. */
public final class Edges05Out {
    public static void main(String[] args) {
        Due due = new Due("edges of promise 5");
        noSuchParty(due);
        theHouse(due);
        noSuchKind(due);
        pieces(due);
        dayOutOfItsRange(due);
        dayBeforeTheClock(due);
        fourHundredLayersOfOneParty(due);
        fourHundredLayersOfAll(due);
        layersThatAreNotEmpty(due);
        layersEmptiedByALot(due);
        refusedAtFourHundredChangesNothing(due);
        due.end();
    }

    /** A party with 10 of kind 0 since day 20 at 30 each, and another one with none. */
    private static KegDeposits started() {
        KegDeposits x = Due.object(2, 2);
        x.price(0, 0, 30);
        x.out(1, 0, 10, 20);
        return x;
    }

    private static void isAsStarted(Due due, String call, KegDeposits x) {
        due.is("balance after " + call, x.balance(1, 100_000), -300);
        due.is("balance of the other party after " + call, x.balance(2, 100_000), 0);
        due.is("balance of the house after " + call, x.balance(0, 100_000), 300);
        due.is("count after " + call, x.count(1, 0), 10);
        due.is("count of the other party after " + call, x.count(2, 0), 0);
        due.is("count of the other kind after " + call, x.count(1, 1), 0);
        due.is("lost after " + call, x.lost(0, 0), 10);
        due.is("lost of the other kind after " + call, x.lost(1, 0), 0);
        due.done("out on day 20 after " + call, x.out(2, 1, 1, 20));
        due.refused("out on day 19 after " + call, x.out(2, 1, 1, 19));
    }

    private static void noSuchParty(Due due) {
        due.sentence("False, refused, when there is no such party");
        for (int party : Far.intsOutside(0, 2)) {
            KegDeposits x = started();
            due.refused("party " + party, x.out(party, 0, 1, 90));
            isAsStarted(due, "party " + party, x);
        }
        due.done("party 1", started().out(1, 0, 1, 90));
        due.done("party 2", started().out(2, 0, 1, 90));
        due.done("party 23", Due.object(23, 1).out(23, 0, 1, 0));
        due.refused("party 24", Due.object(24, 1).out(24, 0, 1, 0));
    }

    private static void theHouse(Due due) {
        due.sentence("False, refused, when it is the house");
        KegDeposits x = started();
        due.refused("the house", x.out(0, 0, 1, 90));
        due.is("count of the house", x.count(0, 0), 0);
        isAsStarted(due, "out to the house", x);
    }

    private static void noSuchKind(Due due) {
        due.sentence("False, refused, when there is no such kind");
        for (int kind : Far.intsOutside(0, 1)) {
            KegDeposits x = started();
            due.refused("kind " + kind, x.out(1, kind, 1, 90));
            isAsStarted(due, "kind " + kind, x);
        }
        due.done("kind 0", started().out(1, 0, 1, 90));
        due.done("kind 1", started().out(1, 1, 1, 90));
        due.done("kind 11", Due.object(1, 12).out(1, 11, 1, 0));
        due.refused("kind 12", Due.object(1, 13).out(1, 12, 1, 0));
    }

    private static void pieces(Due due) {
        due.sentence("False, refused, when n is not 1 .. 100,000");
        for (long n : Far.longsOutside(1, 100_000)) {
            KegDeposits x = started();
            due.refused(n + " pieces", x.out(1, 0, n, 90));
            isAsStarted(due, n + " pieces", x);
        }
        for (long n : new long[] {1, 2, 99_999, 100_000}) {
            KegDeposits x = started();
            due.done(n + " pieces", x.out(1, 0, n, 90));
            due.is("count", x.count(1, 0), 10 + n);
            due.is("balance", x.balance(1, 90), -30 * (10 + n));
            due.is("balance of the house", x.balance(0, 90), 30 * (10 + n));
        }
    }

    private static void dayOutOfItsRange(Due due) {
        due.sentence("False, refused, when the day is out of its range");
        for (long day : Far.longsOutside(0, 100_000)) {
            KegDeposits x = started();
            due.refused("day " + day, x.out(1, 0, 1, day));
            isAsStarted(due, "day " + day, x);
            due.refused("day " + day + " on a new object", Due.object(1, 1).out(1, 0, 1, day));
        }
        due.done("day 0", Due.object(1, 1).out(1, 0, 1, 0));
        due.done("day 100000", started().out(1, 0, 1, 100_000));
    }

    private static void dayBeforeTheClock(Due due) {
        due.sentence("False, refused, when the day is before the clock");
        for (long day : new long[] {0, 1, 18, 19}) {
            KegDeposits x = started();
            due.refused("day " + day, x.out(1, 0, 1, day));
            isAsStarted(due, "day " + day, x);
        }
        due.done("day 20, the clock's", started().out(1, 0, 1, 20));
        due.done("day 21", started().out(1, 0, 1, 21));
        KegDeposits x = started();
        x.out(1, 0, 1, 100_000);
        due.refused("the last day but one", x.out(1, 0, 1, 99_999));
        due.done("the last day", x.out(1, 0, 1, 100_000));
    }

    private static KegDeposits withLayers(int layers, int parties, int kinds) {
        KegDeposits x = Due.object(parties, kinds);
        x.price(0, 0, 2);
        for (int i = 0; i < layers; i++) {
            x.out(1 + i % parties, i % kinds, 2, 0);
        }
        return x;
    }

    private static void fourHundredLayersOfOneParty(Due due) {
        due.sentence("False, refused, when there are 400 layers that are not empty");
        KegDeposits x = withLayers(399, 1, 1);
        due.is("399 layers", x.count(1, 0), 798);
        due.done("the 400th layer", x.out(1, 0, 100_000, 0));
        due.refused("the 401st layer", x.out(1, 0, 1, 0));
        due.is("400 layers", x.count(1, 0), 100_798);
        due.is("balance", x.balance(1, 0), -2 * 100_798);
    }

    private static void fourHundredLayersOfAll(Due due) {
        due.sentence("there are 400 layers: those of all parties and kinds together");
        KegDeposits x = withLayers(399, 23, 12);
        due.done("the 400th layer", x.out(23, 11, 1, 0));
        for (int party = 1; party < 24; party++) {
            due.refused("the 401st layer, of party " + party, x.out(party, party % 12, 1, 0));
        }
    }

    private static void layersThatAreNotEmpty(Due due) {
        due.sentence("layers that are not empty");
        KegDeposits x = withLayers(400, 2, 1);
        due.done("half a layer comes back", x.back(1, 0, 1, 0));
        due.refused("it is not empty", x.out(2, 0, 1, 0));
        due.done("the other half comes back", x.back(1, 0, 1, 0));
        due.done("it is empty", x.out(2, 0, 1, 0));
        due.refused("400 layers again", x.out(2, 0, 1, 0));
        due.done("two layers and a half come back", x.back(1, 0, 5, 0));
        due.done("room for one", x.out(1, 0, 1, 0));
        due.done("room for another one", x.out(1, 0, 1, 0));
        due.refused("no room for a third one", x.out(1, 0, 1, 0));
        due.is("count", x.count(1, 0), 400 - 7 + 2);
    }

    private static void layersEmptiedByALot(Due due) {
        due.sentence("layers that are not empty: a lot empties them too");
        KegDeposits x = withLayers(400, 1, 2);
        x.share(0, 1, 2);
        x.share(1, 1, 2);
        due.refused("400 layers", x.out(1, 0, 1, 0));
        due.done("a piece of each", x.sampled(1, 2, 0));
        due.refused("no layer is empty", x.out(1, 0, 1, 0));
        due.done("another piece of each", x.sampled(1, 2, 0));
        due.done("room for one", x.out(1, 0, 1, 0));
        due.done("room for another one", x.out(1, 1, 1, 0));
        due.refused("no room for a third one", x.out(1, 0, 1, 0));
    }

    private static void refusedAtFourHundredChangesNothing(Due due) {
        due.sentence("refused at 400 layers: nothing changes");
        KegDeposits x = withLayers(400, 2, 2);
        for (int again = 0; again < 10; again++) {
            due.refused("the 401st layer", x.out(1, 0, 5, 50));
        }
        due.is("count", x.count(1, 0), 400);
        due.is("count of the other", x.count(2, 1), 400);
        due.is("balance", x.balance(1, 100_000), -800);
        due.is("balance of the house", x.balance(0, 100_000), 800);
        due.done("the clock stands at 0", x.back(1, 0, 2, 0));
        due.done("there is room for one", x.out(1, 0, 5, 0));
        due.refused("not for two", x.out(1, 0, 5, 0));
    }
}
