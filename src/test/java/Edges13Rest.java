/** Promise 13, sentence by sentence, at the bounds of kinds, parts and rests. */
public final class Edges13Rest {
    public static void main(String[] args) {
        Due due = new Due("edges of promise 13");
        reducedFraction(due);
        restOfNothing(due);
        noSuchKind(due);
        anotherPart(due);
        asksOnly(due);
        due.end();
    }

    /** An object whose kind 0 has a rest of so many parts, and kind 1 of the parts that make them one. */
    private static KegDeposits withRest(long parts) {
        KegDeposits x = Due.object(1, 2);
        x.share(0, parts, 10_000);
        x.share(1, 10_000 - parts, 10_000);
        x.out(1, 0, 5, 0);
        x.out(1, 1, 5, 0);
        x.sampled(1, 1, 0);
        return x;
    }

    private static void reducedFraction(Due due) {
        due.sentence("The rest of a kind as a reduced fraction of a piece: above (part 0), below (part 1)");
        long[][] rests = {{1, 1, 10_000}, {2, 1, 5000}, {5, 1, 2000}, {16, 1, 625}, {625, 1, 16}, {2500, 1, 4},
                {3333, 3333, 10_000}, {4998, 2499, 5000}, {5000, 1, 2}, {5001, 5001, 10_000}, {7500, 3, 4},
                {9375, 15, 16}, {9984, 624, 625}, {9998, 4999, 5000}, {9999, 9999, 10_000}};
        for (long[] rest : rests) {
            due.rest(withRest(rest[0]), 0, rest[1], rest[2]);
            due.rest(withRest(10_000 - rest[0]), 1, rest[1], rest[2]);
        }
    }

    private static void restOfNothing(Due due) {
        due.sentence("a reduced fraction of a piece: 0 / 1 when there is no rest");
        for (long parts : new long[] {0, 10_000}) {
            KegDeposits x = withRest(parts);
            due.rest(x, 0, 0, 1);
            due.rest(x, 1, 0, 1);
        }
        KegDeposits x = withRest(5000);
        due.rest(x, 0, 1, 2);
        x.sampled(1, 1, 0);
        due.rest(x, 0, 0, 1);
        due.rest(Due.object(0, 1), 0, 0, 1);
    }

    private static void noSuchKind(Due due) {
        due.sentence("NONE when there is no such kind");
        for (int kind : Far.intsOutside(0, 1)) {
            KegDeposits x = withRest(2500);
            due.is("kind " + kind + ", above", x.rest(kind, 0), KegDeposits.NONE);
            due.is("kind " + kind + ", below", x.rest(kind, 1), KegDeposits.NONE);
            due.is("kind " + kind + ", another part", x.rest(kind, 2), KegDeposits.NONE);
        }
        for (int kinds = 1; kinds <= 12; kinds++) {
            KegDeposits x = Due.object(0, kinds);
            due.rest(x, kinds - 1, 0, 1);
            due.rest(x, kinds, KegDeposits.NONE, KegDeposits.NONE);
        }
    }

    private static void anotherPart(Due due) {
        due.sentence("NONE for another part");
        for (int part : Far.intsOutside(0, 1)) {
            KegDeposits x = withRest(2500);
            due.is("part " + part, x.rest(0, part), KegDeposits.NONE);
            due.is("part " + part, x.rest(1, part), KegDeposits.NONE);
            due.is("part " + part + " of no rest", Due.object(0, 1).rest(0, part), KegDeposits.NONE);
        }
        due.is("part 0", withRest(2500).rest(0, 0), 1);
        due.is("part 1", withRest(2500).rest(0, 1), 4);
    }

    private static void asksOnly(Due due) {
        due.sentence("rest only asks");
        KegDeposits x = withRest(2500);
        for (int again = 0; again < 100; again++) {
            due.rest(x, 0, 1, 4);
            due.rest(x, 1, 3, 4);
        }
        x.sampled(1, 1, 0);
        due.rest(x, 0, 1, 2);
        due.rest(x, 1, 1, 2);
    }
}
