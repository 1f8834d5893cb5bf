/** Promise 12: two parties settle by the worth of their pieces on day month * 30. */
public final class Promise12Settle {
    public static void main(String[] args) {
        Due due = new Due("promise 12");
        theOneWithMorePays(due);
        pricesOfThatDay(due);
        roundedDown(due);
        allKindsThatAreStillOut(due);
        refusals(due);
        clock(due);
        largest(due);
        due.end();
    }

    private static void theOneWithMorePays(Due due) {
        KegDeposits x = Due.object(3, 1);
        x.price(0, 0, 10);
        x.out(1, 0, 7, 0);
        x.out(2, 0, 3, 0);
        x.out(3, 0, 7, 0);
        due.is("a pays", x.settle(1, 2, 0), 1);
        due.is("balance of a", x.balance(1, 0), -90);
        due.is("balance of b", x.balance(2, 0), -10);
        due.is("balance of the third", x.balance(3, 0), -70);
        due.is("balance of the house", x.balance(0, 0), 170);
        due.is("b pays", x.settle(2, 1, 1), -1);
        due.is("balance of a", x.balance(2, 30), 10);
        due.is("balance of b", x.balance(1, 30), -110);
        due.is("nothing between equals", x.settle(1, 3, 1), 0);
        due.is("balance stays", x.balance(1, 30), -110);
        due.is("balance of the third stays", x.balance(3, 30), -70);
        due.is("pieces stay", x.count(1, 0), 7);
    }

    private static void pricesOfThatDay(Due due) {
        KegDeposits x = Due.object(2, 2);
        x.price(0, 0, 10);
        x.price(0, 60, 1000);
        x.price(1, 0, 100);
        x.price(1, 61, 100_000);
        x.out(1, 0, 10, 0);
        x.out(2, 1, 10, 0);
        due.is("kind 1 is dearer on day 30", x.settle(1, 2, 1), -1);
        due.is("balance", x.balance(1, 30), -100 + 450);
        due.is("kind 0 is dearer on day 60", x.settle(1, 2, 2), 1);
        due.is("balance", x.balance(1, 60), 350 - 4500);
        x.price(0, 60, 0);
        due.is("by the price as it is told now", x.settle(1, 2, 2), -1);
        due.is("balance", x.balance(1, 60), -4150 + 500);
    }

    private static void roundedDown(Due due) {
        KegDeposits x = Due.object(2, 1);
        x.price(0, 0, 1);
        x.out(1, 0, 1, 0);
        due.is("half a cent is nothing", x.settle(1, 2, 0), 0);
        due.is("half a cent is nothing, the other way", x.settle(2, 1, 0), 0);
        due.is("balance", x.balance(1, 0), -1);
        due.is("balance of the other", x.balance(2, 0), 0);
        x.out(1, 0, 2, 0);
        due.is("one and a half is one", x.settle(1, 2, 0), 1);
        due.is("balance", x.balance(1, 0), -4);
        due.is("balance of the other", x.balance(2, 0), 1);
        due.is("one and a half is one, the other way", x.settle(2, 1, 0), -1);
        due.is("balance", x.balance(1, 0), -5);
        due.is("balance of the other", x.balance(2, 0), 2);
    }

    private static void allKindsThatAreStillOut(Due due) {
        KegDeposits x = Due.object(2, 3);
        x.price(0, 0, 2);
        x.price(1, 0, 20);
        x.price(2, 0, 200);
        x.out(1, 0, 5, 0);
        x.out(1, 1, 5, 0);
        x.out(1, 2, 5, 0);
        x.out(2, 2, 5, 0);
        x.back(1, 2, 1, 0);
        x.back(1, 0, 5, 0);
        due.is("900 against 1000", x.settle(1, 2, 0), -1);
        due.is("balance", x.balance(1, 0), -100 - 800 + 50);
    }

    private static void refusals(Due due) {
        KegDeposits x = Due.object(2, 1);
        x.price(0, 0, 100);
        x.out(1, 0, 10, 0);
        due.is("house and party", x.settle(0, 1, 0), -2);
        due.is("party and house", x.settle(1, 0, 0), -2);
        due.is("house and house", x.settle(0, 0, 0), -2);
        due.is("one party", x.settle(1, 1, 0), -2);
        due.is("party -1", x.settle(-1, 1, 0), -2);
        due.is("party 3", x.settle(1, 3, 0), -2);
        due.is("parties 24 and 25", x.settle(24, 25, 0), -2);
        due.is("the greatest party", x.settle(Integer.MAX_VALUE, 1, 0), -2);
        due.is("the least party", x.settle(1, Integer.MIN_VALUE, 0), -2);
        due.is("month -1", x.settle(1, 2, -1), -2);
        due.is("month 3334", x.settle(1, 2, 3334), -2);
        due.is("the greatest month", x.settle(1, 2, Integer.MAX_VALUE), -2);
        due.is("the least month", x.settle(1, 2, Integer.MIN_VALUE), -2);
        due.is("a month whose day is 0 as an int", x.settle(1, 2, 1 << 31), -2);
        due.is("a month whose day is 14 as an int", x.settle(1, 2, 143_165_577), -2);
        due.is("balance", x.balance(1, 100_000), -1000);
        due.is("balance of the other", x.balance(2, 100_000), 0);
        due.done("the clock stands at 0", x.out(1, 0, 1, 0));
        due.is("month 3333", x.settle(1, 2, 3333), 1);
        due.is("balance on day 99989", x.balance(2, 99_989), 0);
        due.is("balance on day 99990", x.balance(2, 99_990), 550);
    }

    private static void clock(Due due) {
        KegDeposits x = Due.object(2, 1);
        x.price(0, 0, 100);
        x.out(1, 0, 10, 31);
        due.is("day 30 is before the clock", x.settle(1, 2, 1), -2);
        due.is("day 60", x.settle(1, 2, 2), 1);
        due.is("day 60 again", x.settle(1, 2, 2), 1);
        due.refused("out on day 59", x.out(1, 0, 1, 59));
        due.refused("back on day 59", x.back(1, 0, 1, 59));
        due.done("back on day 60", x.back(1, 0, 10, 60));
        due.is("nothing is paid on day 90", x.settle(1, 2, 3), 0);
        due.refused("out on day 89", x.out(1, 0, 1, 89));
        due.is("day 60 is before the clock", x.settle(1, 2, 2), -2);
        due.done("out on day 90", x.out(1, 0, 1, 90));
    }

    private static void largest(Due due) {
        KegDeposits x = Due.object(2, 1);
        x.price(0, 0, 100_000);
        for (int i = 0; i < 400; i++) {
            x.out(1, 0, 100_000, 0);
        }
        due.is("balance", x.balance(1, 0), -4_000_000_000_000L);
        due.is("a pays", x.settle(1, 2, 0), 1);
        due.is("balance of a", x.balance(1, 0), -6_000_000_000_000L);
        due.is("balance of b", x.balance(2, 0), 2_000_000_000_000L);
    }
}
