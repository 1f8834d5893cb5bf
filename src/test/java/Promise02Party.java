/** Promise 2: parties are numbered from 1 behind the house, at most 24 with it. */
public final class Promise02Party {
    public static void main(String[] args) {
        Due due = new Due("promise 2");
        KegDeposits x = new KegDeposits();
        x.kind();
        for (int number = 1; number < 24; number++) {
            due.is("not yet party " + number, x.count(number, 0), KegDeposits.NONE);
            due.is("party", x.party(), number);
            due.is("party " + number + " has none", x.count(number, 0), 0);
            due.is("party " + number + " owes nothing", x.balance(number, 0), 0);
        }
        due.is("the 25th party", x.party(), KegDeposits.FULL);
        due.is("the 25th party again", x.party(), KegDeposits.FULL);
        due.is("there is no party 24", x.count(24, 0), KegDeposits.NONE);
        due.refused("out to party 24", x.out(24, 0, 1, 0));
        due.done("out to party 23", x.out(23, 0, 4, 0));
        due.is("party 23 has 4", x.count(23, 0), 4);
        due.is("party 22 has none", x.count(22, 0), 0);
        due.is("kinds go on being numbered by themselves", x.kind(), 1);
        due.end();
    }
}
