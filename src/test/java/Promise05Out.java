/** Promise 5: pieces go out to a party at the price of the day, in at most 400 layers that are not empty. */
public final class Promise05Out {
    public static void main(String[] args) {
        Due due = new Due("promise 5");
        partyOwesTheHouse(due);
        refusals(due);
        refusalsChangeNothing(due);
        clock(due);
        layersOfAllParties(due);
        emptyLayersMakeRoom(due);
        due.end();
    }

    private static void partyOwesTheHouse(Due due) {
        KegDeposits x = Due.object(2, 2);
        x.price(0, 0, 150);
        x.price(1, 3, 20);
        due.done("out", x.out(1, 0, 10, 0));
        due.is("party 1 has 10", x.count(1, 0), 10);
        due.is("party 2 has none", x.count(2, 0), 0);
        due.is("party 1 has none of the other kind", x.count(1, 1), 0);
        due.is("the house has none", x.count(0, 0), 0);
        due.is("balance of party 1", x.balance(1, 0), -1500);
        due.is("balance of party 2", x.balance(2, 0), 0);
        due.is("balance of the house", x.balance(0, 0), 1500);
        due.done("out of the other kind", x.out(2, 1, 100_000, 3));
        due.is("balance of party 2", x.balance(2, 3), -2_000_000);
        due.is("balance of party 1 stays", x.balance(1, 3), -1500);
        due.is("balance of the house", x.balance(0, 3), 2_001_500);
        due.done("more to party 1", x.out(1, 0, 1, 3));
        due.is("party 1 has 11", x.count(1, 0), 11);
    }

    private static void refusals(Due due) {
        KegDeposits x = Due.object(1, 1);
        due.refused("the house", x.out(0, 0, 1, 0));
        due.refused("party -1", x.out(-1, 0, 1, 0));
        due.refused("party 2", x.out(2, 0, 1, 0));
        due.refused("the greatest party", x.out(Integer.MAX_VALUE, 0, 1, 0));
        due.refused("the least party", x.out(Integer.MIN_VALUE, 0, 1, 0));
        due.refused("kind -1", x.out(1, -1, 1, 0));
        due.refused("kind 1", x.out(1, 1, 1, 0));
        due.refused("the greatest kind", x.out(1, Integer.MAX_VALUE, 1, 0));
        due.refused("no piece", x.out(1, 0, 0, 0));
        due.refused("-1 pieces", x.out(1, 0, -1, 0));
        due.refused("100001 pieces", x.out(1, 0, 100_001, 0));
        due.refused("the most pieces", x.out(1, 0, Long.MAX_VALUE, 0));
        due.refused("pieces that are 1 as an int", x.out(1, 0, (1L << 32) + 1, 0));
        due.refused("day -1", x.out(1, 0, 1, -1));
        due.refused("day 100001", x.out(1, 0, 1, 100_001));
        due.refused("the greatest day", x.out(1, 0, 1, Long.MAX_VALUE));
        due.refused("a day that is 0 as an int", x.out(1, 0, 1, 1L << 32));
        due.done("one piece on day 0", x.out(1, 0, 1, 0));
        due.done("100000 pieces on day 100000", x.out(1, 0, 100_000, 100_000));
        due.is("count", x.count(1, 0), 100_001);
    }

    private static void refusalsChangeNothing(Due due) {
        KegDeposits x = Due.object(1, 1);
        x.price(0, 0, 10);
        x.out(0, 0, 5, 40);
        x.out(1, 0, 0, 40);
        x.out(1, 0, 100_001, 40);
        x.out(1, 1, 5, 40);
        x.out(1, 0, 5, 100_001);
        due.is("count", x.count(1, 0), 0);
        due.is("balance", x.balance(1, 100_000), 0);
        due.is("balance of the house", x.balance(0, 100_000), 0);
        due.done("the clock stands at 0", x.out(1, 0, 5, 0));
    }

    private static void clock(Due due) {
        KegDeposits x = Due.object(2, 1);
        due.done("out on day 7", x.out(1, 0, 5, 7));
        due.done("out on day 7 again", x.out(2, 0, 5, 7));
        due.refused("out on day 6", x.out(2, 0, 5, 6));
        due.refused("back on day 6", x.back(1, 0, 1, 6));
        due.done("back on day 8", x.back(1, 0, 1, 8));
        due.refused("out on day 7 is now before the clock", x.out(1, 0, 5, 7));
        x.share(0, 1, 1);
        due.done("sampled on day 9", x.sampled(1, 1, 9));
        due.refused("out on day 8 is now before the clock", x.out(1, 0, 5, 8));
        due.is("settle on day 30", x.settle(1, 2, 1), 0);
        due.refused("out on day 29 is now before the clock", x.out(1, 0, 5, 29));
        due.done("out on day 30", x.out(1, 0, 5, 30));
    }

    private static void layersOfAllParties(Due due) {
        KegDeposits x = Due.object(4, 2);
        x.price(0, 0, 1);
        x.price(1, 0, 1);
        for (int i = 0; i < 399; i++) {
            due.done("layer " + i, x.out(1 + i % 4, i % 2, 2, i / 10));
        }
        due.done("layer 399", x.out(1, 0, 2, 40));
        due.refused("the 401st layer", x.out(1, 0, 2, 40));
        due.refused("the 401st layer of another party", x.out(2, 1, 1, 41));
        due.is("balance of the house", x.balance(0, 41), 800);
        due.done("half a layer comes back", x.back(1, 0, 1, 40));
        due.refused("still 400 layers", x.out(1, 0, 2, 40));
        due.done("the other half comes back", x.back(1, 0, 1, 40));
        due.done("one layer is empty", x.out(3, 1, 2, 40));
        due.refused("400 layers again", x.out(1, 0, 2, 40));
    }

    private static void emptyLayersMakeRoom(Due due) {
        KegDeposits x = Due.object(1, 2);
        for (int i = 0; i < 400; i++) {
            x.out(1, i % 2, 1, 0);
        }
        due.refused("400 layers", x.out(1, 0, 1, 0));
        due.done("100 come back", x.back(1, 0, 100, 1));
        for (int i = 0; i < 100; i++) {
            due.done("room for " + i, x.out(1, 1, 3, 2));
        }
        due.refused("400 layers again", x.out(1, 0, 1, 2));
        due.is("count of kind 0", x.count(1, 0), 100);
        due.is("count of kind 1", x.count(1, 1), 500);
    }
}
