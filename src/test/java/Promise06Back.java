/** Promise 6: pieces come back from a party's layers of the kind, the oldest first, each at its layer's price. */
public final class Promise06Back {
    public static void main(String[] args) {
        Due due = new Due("promise 6");
        oldestFirst(due);
        ofOneDayInTurn(due);
        ownLayersOfTheKind(due);
        refusals(due);
        refusalsChangeNothing(due);
        clock(due);
        due.end();
    }

    private static KegDeposits threePrices() {
        KegDeposits x = Due.object(2, 2);
        x.price(0, 0, 100);
        x.price(0, 10, 10);
        x.price(0, 20, 1000);
        x.out(1, 0, 3, 0);
        x.out(1, 0, 4, 10);
        x.out(1, 0, 5, 20);
        return x;
    }

    private static void oldestFirst(Due due) {
        KegDeposits x = threePrices();
        due.is("balance", x.balance(1, 20), -5340);
        due.done("2 of the first layer", x.back(1, 0, 2, 20));
        due.is("balance", x.balance(1, 20), -5140);
        due.done("1 of the first, 2 of the second layer", x.back(1, 0, 3, 21));
        due.is("balance", x.balance(1, 21), -5020);
        due.is("balance of the house", x.balance(0, 21), 5020);
        due.is("count", x.count(1, 0), 7);
        due.done("2 of the second, 4 of the third layer", x.back(1, 0, 6, 22));
        due.is("balance", x.balance(1, 22), -1000);
        due.done("the last one", x.back(1, 0, 1, 22));
        due.is("balance", x.balance(1, 22), 0);
        due.is("count", x.count(1, 0), 0);
        due.refused("no more", x.back(1, 0, 1, 22));
        due.done("out again", x.out(1, 0, 1, 22));
        due.done("back again", x.back(1, 0, 1, 22));
        due.is("balance", x.balance(1, 22), 0);
    }

    private static void ofOneDayInTurn(Due due) {
        KegDeposits x = Due.object(1, 1);
        x.price(0, 0, 5);
        x.out(1, 0, 1, 0);
        x.price(0, 0, 700);
        x.out(1, 0, 1, 0);
        due.done("back", x.back(1, 0, 1, 0));
        due.is("that which went out first", x.balance(1, 0), -700);
    }

    private static void ownLayersOfTheKind(Due due) {
        KegDeposits x = Due.object(2, 2);
        x.price(0, 0, 3);
        x.price(1, 0, 50);
        x.out(2, 0, 10, 0);
        x.out(1, 1, 10, 0);
        x.out(1, 0, 10, 1);
        due.done("back", x.back(1, 0, 10, 1));
        due.is("count of the kind", x.count(1, 0), 0);
        due.is("count of the other kind", x.count(1, 1), 10);
        due.is("count of the other party", x.count(2, 0), 10);
        due.is("balance", x.balance(1, 1), -500);
        due.is("balance of the other party", x.balance(2, 1), -30);
        due.refused("what the other party has", x.back(1, 0, 1, 1));
        due.refused("what it has of the other kind only", x.back(2, 1, 1, 1));
    }

    private static void refusals(Due due) {
        KegDeposits x = Due.object(1, 1);
        x.out(1, 0, 100_000, 0);
        x.out(1, 0, 100_000, 0);
        due.refused("the house", x.back(0, 0, 1, 0));
        due.refused("party -1", x.back(-1, 0, 1, 0));
        due.refused("party 2", x.back(2, 0, 1, 0));
        due.refused("the greatest party", x.back(Integer.MAX_VALUE, 0, 1, 0));
        due.refused("kind -1", x.back(1, -1, 1, 0));
        due.refused("kind 1", x.back(1, 1, 1, 0));
        due.refused("the least kind", x.back(1, Integer.MIN_VALUE, 1, 0));
        due.refused("no piece", x.back(1, 0, 0, 0));
        due.refused("-1 pieces", x.back(1, 0, -1, 0));
        due.refused("100001 pieces", x.back(1, 0, 100_001, 0));
        due.refused("the least pieces", x.back(1, 0, Long.MIN_VALUE, 0));
        due.refused("day -1", x.back(1, 0, 1, -1));
        due.refused("day 100001", x.back(1, 0, 1, 100_001));
        due.refused("the greatest day", x.back(1, 0, 1, Long.MAX_VALUE));
        due.is("count stays", x.count(1, 0), 200_000);
        due.done("one piece", x.back(1, 0, 1, 0));
        due.done("100000 pieces on day 100000", x.back(1, 0, 100_000, 100_000));
        due.is("count", x.count(1, 0), 99_999);
        due.refused("one more than it has", x.back(1, 0, 100_000, 100_000));
        due.done("all that it has", x.back(1, 0, 99_999, 100_000));
    }

    private static void refusalsChangeNothing(Due due) {
        KegDeposits x = threePrices();
        due.refused("one too many", x.back(1, 0, 13, 30));
        due.is("count", x.count(1, 0), 12);
        due.is("balance", x.balance(1, 100_000), -5340);
        due.done("the clock stands at 20", x.back(1, 0, 12, 20));
        due.is("balance", x.balance(1, 20), 0);
    }

    private static void clock(Due due) {
        KegDeposits x = threePrices();
        due.refused("day 19", x.back(1, 0, 1, 19));
        due.done("day 25", x.back(1, 0, 1, 25));
        due.refused("day 24", x.back(1, 0, 1, 24));
        due.refused("out on day 24", x.out(1, 0, 1, 24));
        due.done("day 25 again", x.back(1, 0, 1, 25));
    }
}
