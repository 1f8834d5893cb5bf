/** Promise 11: pieces of a kind that are out since months * 30 days before the clock or longer. */
public final class Promise11Lost {
    public static void main(String[] args) {
        Due due = new Due("promise 11");
        byTheClock(due);
        ofAllParties(due);
        wrongInputs(due);
        due.end();
    }

    private static void byTheClock(Due due) {
        KegDeposits x = Due.object(2, 2);
        x.out(1, 0, 1, 0);
        x.out(1, 0, 2, 29);
        x.out(1, 0, 4, 30);
        x.out(1, 0, 8, 31);
        x.out(1, 1, 100, 60);
        due.is("months 0", x.lost(0, 0), 15);
        due.is("months 1: day 30 counts, day 31 does not", x.lost(0, 1), 7);
        due.is("months 2: day 0 counts", x.lost(0, 2), 1);
        due.is("months 3", x.lost(0, 3), 0);
        due.is("the other kind", x.lost(1, 0), 100);
        due.is("the other kind, months 1", x.lost(1, 1), 0);
        x.back(1, 0, 2, 60);
        due.is("after back of day 0 and half of day 29", x.lost(0, 1), 5);
        due.is("after back of day 0", x.lost(0, 2), 0);
        x.out(2, 1, 1, 61);
        due.is("a day later day 31 counts too", x.lost(0, 1), 13);
        x.settle(1, 2, 100_000);
        due.is("a settle that is refused leaves the clock", x.lost(1, 1), 0);
        x.settle(1, 2, 3);
        due.is("settle moves the clock", x.lost(1, 1), 100);
    }

    private static void ofAllParties(Due due) {
        KegDeposits x = Due.object(23, 12);
        for (int party = 1; party < 24; party++) {
            x.out(party, 11, 100_000, 0);
        }
        x.out(1, 0, 1, 100_000);
        due.is("all parties", x.lost(11, 3333), 2_300_000);
        due.is("a month more", x.lost(11, 3334), 0);
        due.is("months 0", x.lost(0, 0), 1);
    }

    private static void wrongInputs(Due due) {
        KegDeposits x = Due.object(1, 1);
        x.out(1, 0, 5, 0);
        due.is("kind -1", x.lost(-1, 0), KegDeposits.NONE);
        due.is("kind 1", x.lost(1, 0), KegDeposits.NONE);
        due.is("kind 12", x.lost(12, 0), KegDeposits.NONE);
        due.is("the greatest kind", x.lost(Integer.MAX_VALUE, 0), KegDeposits.NONE);
        due.is("the least kind", x.lost(Integer.MIN_VALUE, 0), KegDeposits.NONE);
        due.is("months -1", x.lost(0, -1), KegDeposits.NONE);
        due.is("the least months", x.lost(0, Integer.MIN_VALUE), KegDeposits.NONE);
        due.is("the most months", x.lost(0, Integer.MAX_VALUE), 0);
        due.is("months whose days are below 0 as an int", x.lost(0, 100_000_000), 0);
        due.is("months whose days are 0 as an int", x.lost(0, 1 << 30), 0);
        due.is("months 0", x.lost(0, 0), 5);
    }
}
