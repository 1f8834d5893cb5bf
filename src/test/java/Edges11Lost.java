/** Promise 11, sentence by sentence, at the bounds of kinds, months and days. */
public final class Edges11Lost {
    public static void main(String[] args) {
        Due due = new Due("edges of promise 11");
        atLeastSoLongAgo(due);
        beforeTheClock(due);
        whatIsOut(due);
        noSuchKind(due);
        monthsBelowNought(due);
        greatMonths(due);
        asksOnly(due);
        due.end();
    }

    private static void atLeastSoLongAgo(Due due) {
        due.sentence("pieces of a kind that went out at least months * 30 days before the clock");
        for (long clock : new long[] {30, 31, 59, 60, 61, 99_990, 100_000}) {
            for (int months = 0; months <= 3333; months += months < 3 ? 1 : 3330) {
                for (long day = clock - 30L * months - 1; day <= clock - 30L * months + 1; day++) {
                    wentOut(due, clock, months, day);
                }
            }
        }
    }

    private static void wentOut(Due due, long clock, int months, long day) {
        if (day >= 0 && day <= clock) {
            KegDeposits x = Due.object(2, 2);
            x.out(1, 0, 7, day);
            x.out(2, 1, 1, clock);
            long longAgo = clock - day >= 30L * months ? 7 : 0;
            due.is("out on day " + day + ", lost(0, " + months + ") on day " + clock, x.lost(0, months), longAgo);
        }
    }

    private static void beforeTheClock(Due due) {
        due.sentence("before the clock");
        KegDeposits x = Due.object(2, 1);
        x.share(0, 1, 1);
        x.out(1, 0, 10, 0);
        due.is("the clock is 0", x.lost(0, 0), 10);
        due.is("the clock is 0", x.lost(0, 1), 0);
        x.back(1, 0, 1, 29);
        due.is("the clock is 29, by back", x.lost(0, 1), 0);
        x.back(1, 0, 1, 30);
        due.is("the clock is 30, by back", x.lost(0, 1), 8);
        x.sampled(1, 1, 59);
        due.is("the clock is 59, by sampled", x.lost(0, 2), 0);
        x.sampled(1, 1, 60);
        due.is("the clock is 60, by sampled", x.lost(0, 2), 6);
        due.is("the clock is 60", x.lost(0, 3), 0);
        x.settle(1, 2, 3);
        due.is("the clock is 90, by settle", x.lost(0, 3), 6);
        x.out(2, 0, 5, 119);
        due.is("the clock is 119, by out", x.lost(0, 4), 0);
        x.out(2, 0, 5, 120);
        due.is("the clock is 120, by out", x.lost(0, 4), 6);
        due.is("all", x.lost(0, 0), 16);
        x.out(2, 0, 0, 100_000);
        due.is("a refused out leaves the clock at 120", x.lost(0, 5), 0);
    }

    private static void whatIsOut(Due due) {
        due.sentence("How many pieces of a kind are out");
        KegDeposits x = Due.object(23, 2);
        for (int party = 1; party < 24; party++) {
            x.out(party, 0, 2, party);
            x.out(party, 1, 100, party);
        }
        due.is("of all parties", x.lost(0, 0), 46);
        x.back(3, 0, 1, 30);
        due.is("a half of a layer came back", x.lost(0, 0), 45);
        x.back(3, 0, 1, 30);
        due.is("a layer came back", x.lost(0, 0), 44);
        x.settle(1, 2, 2);
        due.is("a month before day 60", x.lost(0, 1), 44);
        x.out(5, 0, 3, 60);
        due.is("what went out just now is not lost", x.lost(0, 1), 44);
        x.back(5, 0, 4, 60);
        due.is("the oldest came back, not that of just now", x.lost(0, 1), 42);
        due.is("all", x.lost(0, 0), 43);
        due.is("the other kind", x.lost(1, 1), 2300);
    }

    private static void noSuchKind(Due due) {
        due.sentence("NONE when there is no such kind");
        for (int kind : Far.intsOutside(0, 1)) {
            KegDeposits x = Due.object(1, 2);
            x.out(1, 0, 1, 0);
            due.is("kind " + kind, x.lost(kind, 0), KegDeposits.NONE);
            due.is("kind " + kind + ", months 1", x.lost(kind, 1), KegDeposits.NONE);
            due.is("kind " + kind + ", months -1", x.lost(kind, -1), KegDeposits.NONE);
        }
        for (int kinds = 1; kinds <= 12; kinds++) {
            KegDeposits x = Due.object(1, kinds);
            x.out(1, kinds - 1, 6, 0);
            due.is("kind " + (kinds - 1), x.lost(kinds - 1, 0), 6);
            due.is("kind " + kinds, x.lost(kinds, 0), KegDeposits.NONE);
        }
    }

    private static void monthsBelowNought(Due due) {
        due.sentence("NONE when months are below 0");
        for (int months : Far.intsOutside(0, Integer.MAX_VALUE)) {
            KegDeposits x = Due.object(1, 1);
            x.out(1, 0, 1, 90);
            due.is("months " + months, x.lost(0, months), KegDeposits.NONE);
            due.is("months 0", x.lost(0, 0), 1);
        }
    }

    private static void greatMonths(Due due) {
        due.sentence("at least months * 30 days before the clock: no product wraps around");
        for (int months : Far.intsOutside(Integer.MIN_VALUE, 3333)) {
            KegDeposits x = Due.object(1, 1);
            x.out(1, 0, 1, 0);
            x.out(1, 0, 1, 100_000);
            due.is("months " + months, x.lost(0, months), 0);
            due.is("months 3333", x.lost(0, 3333), 1);
        }
    }

    private static void asksOnly(Due due) {
        due.sentence("lost only asks");
        KegDeposits x = Due.object(1, 1);
        x.out(1, 0, 4, 30);
        for (int again = 0; again < 100; again++) {
            due.is("again", x.lost(0, 0), 4);
            due.is("a month again", x.lost(0, 1), 0);
        }
        due.is("the count stays", x.count(1, 0), 4);
        due.done("the clock stays", x.back(1, 0, 4, 30));
        due.is("none is out", x.lost(0, 0), 0);
    }
}
