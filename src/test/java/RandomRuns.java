import java.util.Random;

/** Runs of 512 made-up calls, the same ones each time, whose answers are held against those of the model. */
public final class RandomRuns {
    private static final int RUNS = 600;
    private static final int CALLS = 512;
    private static final int FREE_CALLS = 600;
    private static final int[] ODD_INTS = {-1, Integer.MIN_VALUE, Integer.MAX_VALUE, 12, 24, 3334, 1 << 30, 143_165_577};
    private static final long[] ODD_LONGS =
            {-1, 0, 100_000, 100_001, Long.MIN_VALUE, Long.MAX_VALUE, 1L << 32, (1L << 60) + 1, -(1L << 32)};
    private static final long[] BELOWS = {1, 2, 4, 5, 8, 10, 16, 100, 10_000};

    private final Due due;
    private final Random random;
    private final KegDeposits x = new KegDeposits();
    private final Model model = new Model();
    private final int run;
    private final int oddity;
    private final int outs;
    private final int dayStep;

    private RandomRuns(Due due, int run) {
        this.due = due;
        this.run = run;
        random = new Random(run);
        oddity = run % 4 == 0 ? 4 : 60;
        outs = run % 3 == 0 ? 85 : 30;
        dayStep = run % 5 == 0 ? 3000 : run % 5 == 1 ? 1 : 12;
    }

    public static void main(String[] args) {
        Due due = new Due("random runs");
        for (int run = 0; run < RUNS; run++) {
            new RandomRuns(due, run).go();
        }
        due.end();
    }

    private void go() {
        int made = 2 + random.nextInt(run % 7 == 0 ? 30 : 5);
        for (int call = 0; call < made; call++) {
            makeOne();
        }
        halveShares();
        for (int call = made + 2; call < CALLS; call++) {
            if (random.nextInt(60) == 0 && call + 1 < CALLS) {
                call++;
                halveShares();
            } else {
                next();
            }
        }
        goOnFreely();
    }

    /** What an object answers after its calls is free, but it must not throw. */
    private void goOnFreely() {
        for (int call = 0; call < FREE_CALLS; call++) {
            x.party();
            x.kind();
            x.out(1, 0, 1, 100_000);
            x.sampled(1, 1, 100_000);
            x.back(1, 0, 1, 100_000);
            x.settle(1, 2, 3333);
            x.sum(100_000);
        }
    }

    private void makeOne() {
        if (random.nextBoolean()) {
            is("party", x.party(), model.party());
        } else {
            is("kind", x.kind(), model.kind());
        }
    }

    private void halveShares() {
        long below = BELOWS[random.nextInt(BELOWS.length)];
        long above = random.nextInt((int) below + 1);
        is("share", x.share(0, above, below), model.share(0, above, below));
        is("share", x.share(1, below - above, below), model.share(1, below - above, below));
    }

    private void next() {
        int choice = random.nextInt(100);
        if (choice < outs) {
            out();
        } else {
            switch (random.nextInt(13)) {
                case 0, 1, 2 -> back();
                case 3, 4 -> sampled();
                case 5, 6 -> price();
                case 7 -> settle();
                case 8 -> share();
                case 9 -> makeSeldom();
                default -> ask();
            }
        }
    }

    private void makeSeldom() {
        if (random.nextInt(4) == 0) {
            makeOne();
        } else {
            ask();
        }
    }

    private void out() {
        int party = party();
        int kind = kind();
        long n = number();
        long day = day();
        is("out(" + party + ", " + kind + ", " + n + ", " + day + ")",
                x.out(party, kind, n, day), model.out(party, kind, n, day));
    }

    private void back() {
        int party = party();
        int kind = kind();
        long held = model.count(party, kind);
        long n = random.nextInt(3) == 0 && held > 0 ? held + random.nextInt(2) : number();
        long day = day();
        is("back(" + party + ", " + kind + ", " + n + ", " + day + ")",
                x.back(party, kind, n, day), model.back(party, kind, n, day));
    }

    private void sampled() {
        int party = party();
        long n = number();
        long day = day();
        is("sampled(" + party + ", " + n + ", " + day + ")", x.sampled(party, n, day), model.sampled(party, n, day));
    }

    private void price() {
        int kind = kind();
        long day = odd() ? oddLong() : Math.min(100_000, model.clock() + random.nextInt(dayStep * 20) - dayStep * 4);
        long cents = odd() ? oddLong() : random.nextInt(random.nextInt(5) == 0 ? 100_001 : 50);
        is("price(" + kind + ", " + day + ", " + cents + ")", x.price(kind, day, cents), model.price(kind, day, cents));
    }

    private void settle() {
        int a = party();
        int b = party();
        int month = odd() ? oddInt() : (int) (model.clock() / 30) + random.nextInt(2);
        is("settle(" + a + ", " + b + ", " + month + ")", x.settle(a, b, month), model.settle(a, b, month));
    }

    private void share() {
        int kind = kind();
        long below = odd() ? oddLong() : random.nextInt(3) == 0 ? random.nextInt(10_002) : 16;
        long above = odd() ? oddLong() : random.nextInt(4);
        is("share(" + kind + ", " + above + ", " + below + ")",
                x.share(kind, above, below), model.share(kind, above, below));
    }

    private void ask() {
        int party = party();
        int kind = kind();
        long day = odd() ? oddLong() : random.nextInt((int) Math.min(100_000, model.clock() + 2));
        int months = odd() ? oddInt() : random.nextInt((int) (model.clock() / 30) + 2);
        int part = odd() ? oddInt() : random.nextInt(2);
        switch (random.nextInt(5)) {
            case 0 -> is("balance(" + party + ", " + day + ")", x.balance(party, day), model.balance(party, day));
            case 1 -> is("count(" + party + ", " + kind + ")", x.count(party, kind), model.count(party, kind));
            case 2 -> is("lost(" + kind + ", " + months + ")", x.lost(kind, months), model.lost(kind, months));
            case 3 -> is("rest(" + kind + ", " + part + ")", x.rest(kind, part), model.rest(kind, part));
            default -> is("sum(" + day + ")", x.sum(day), model.sum(day));
        }
    }

    private int party() {
        return odd() ? oddInt() : random.nextInt(5);
    }

    private int kind() {
        return odd() ? oddInt() : random.nextInt(3);
    }

    private long number() {
        return odd() ? oddLong() : 1 + random.nextInt(random.nextInt(20) == 0 ? 100_000 : 9);
    }

    private long day() {
        return odd() ? oddDay() : model.clock() + random.nextInt(3) / 2 * random.nextInt(dayStep + 1);
    }

    // The last day is seldom drawn: no day comes after it, so it would end a run's moves early.
    private long oddDay() {
        long day = oddLong();
        return day == 100_000 && random.nextInt(50) != 0 ? model.clock() - 1 : day;
    }

    private boolean odd() {
        return random.nextInt(oddity) == 0;
    }

    private int oddInt() {
        return ODD_INTS[random.nextInt(ODD_INTS.length)];
    }

    private long oddLong() {
        return ODD_LONGS[random.nextInt(ODD_LONGS.length)];
    }

    private void is(String call, boolean got, boolean want) {
        is(call, got ? 1 : 0, want ? 1 : 0);
    }

    private void is(String call, long got, long want) {
        due.is("run " + run + ", " + call, got, want);
    }
}
