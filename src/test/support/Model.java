import java.math.BigInteger;
import java.util.ArrayDeque;
import java.util.ArrayList;
import java.util.Arrays;
import java.util.HashMap;
import java.util.List;
import java.util.Map;
import java.util.TreeMap;

/** The document once more, written for the tests with the Java library: slow, and built another way. */
final class Model {
    private static final BigInteger WHOLE = BigInteger.valueOf(10_000);

    private final List<TreeMap<Long, Long>> balances = new ArrayList<>();
    private final List<TreeMap<Long, Long>> prices = new ArrayList<>();
    private final List<BigInteger> shares = new ArrayList<>();
    private final List<BigInteger> rests = new ArrayList<>();
    /** Of party and kind: what is out, as {day, pieces, cents} in turn. */
    private final Map<List<Integer>, ArrayDeque<long[]>> out = new HashMap<>();
    private long clock = 0;

    Model() {
        balances.add(new TreeMap<>());
    }

    long party() {
        if (balances.size() == 24) {
            return -2;
        }
        balances.add(new TreeMap<>());
        return balances.size() - 1;
    }

    long kind() {
        if (prices.size() == 12) {
            return -2;
        }
        prices.add(new TreeMap<>());
        shares.add(BigInteger.ZERO);
        rests.add(BigInteger.ZERO);
        return prices.size() - 1;
    }

    boolean price(int kind, long day, long cents) {
        if (noKind(kind) || day < 0 || day > 100_000 || cents < 0 || cents > 100_000) {
            return false;
        }
        TreeMap<Long, Long> told = new TreeMap<>(prices.get(kind));
        told.put(day, cents);
        if (told.size() > 20) {
            return false;
        }
        prices.set(kind, told);
        return true;
    }

    boolean out(int party, int kind, long n, long day) {
        if (noCustomer(party) || noKind(kind) || noNumber(n) || noDay(day) || layers() >= 400) {
            return false;
        }
        long cents = priceOn(kind, day);
        outOf(party, kind).addLast(new long[] {day, n, cents});
        pay(day, party, 0, n * cents);
        return true;
    }

    boolean back(int party, int kind, long n, long day) {
        if (noCustomer(party) || noKind(kind) || noNumber(n) || noDay(day) || count(party, kind) < n) {
            return false;
        }
        pay(day, 0, party, takeBack(party, kind, n));
        return true;
    }

    boolean sampled(int party, long n, long day) {
        BigInteger all = shares.stream().reduce(BigInteger.ZERO, BigInteger::add);
        if (noCustomer(party) || noNumber(n) || noDay(day) || !all.equals(WHOLE)) {
            return false;
        }
        List<BigInteger[]> brought = new ArrayList<>();
        for (int kind = 0; kind < shares.size(); kind++) {
            brought.add(rests.get(kind).add(shares.get(kind).multiply(BigInteger.valueOf(n))).divideAndRemainder(WHOLE));
            if (brought.get(kind)[0].longValueExact() > count(party, kind)) {
                return false;
            }
        }
        long cents = 0;
        for (int kind = 0; kind < shares.size(); kind++) {
            cents += takeBack(party, kind, brought.get(kind)[0].longValueExact());
            rests.set(kind, brought.get(kind)[1]);
        }
        pay(day, 0, party, cents);
        return true;
    }

    boolean share(int kind, long above, long below) {
        if (noKind(kind) || below < 1 || below > 10_000) {
            return false;
        }
        BigInteger[] parts = BigInteger.valueOf(above).multiply(WHOLE).divideAndRemainder(BigInteger.valueOf(below));
        if (parts[1].signum() != 0 || parts[0].signum() < 0 || parts[0].compareTo(WHOLE) > 0) {
            return false;
        }
        shares.set(kind, parts[0]);
        return true;
    }

    long balance(int party, long day) {
        if (party < 0 || party >= balances.size()) {
            return 0;
        }
        return balances.get(party).headMap(day, true).values().stream().mapToLong(cents -> cents).sum();
    }

    long count(int party, int kind) {
        if (party < 0 || party >= balances.size() || noKind(kind)) {
            return -1;
        }
        return outOf(party, kind).stream().mapToLong(layer -> layer[1]).sum();
    }

    long lost(int kind, int months) {
        if (noKind(kind) || months < 0) {
            return -1;
        }
        long pieces = 0;
        for (int party = 0; party < balances.size(); party++) {
            for (long[] layer : outOf(party, kind)) {
                pieces += clock - layer[0] >= 30L * months ? layer[1] : 0;
            }
        }
        return pieces;
    }

    long settle(int a, int b, int month) {
        long day = 30L * month;
        if (noCustomer(a) || noCustomer(b) || a == b || noDay(day)) {
            return -2;
        }
        long worthOfA = worth(a, day);
        long worthOfB = worth(b, day);
        long half = (Math.max(worthOfA, worthOfB) - Math.min(worthOfA, worthOfB)) / 2;
        if (worthOfA > worthOfB) {
            pay(day, a, b, half);
        } else {
            pay(day, b, a, half);
        }
        return half == 0 ? 0 : worthOfA > worthOfB ? 1 : -1;
    }

    long rest(int kind, int part) {
        if (noKind(kind) || part != 0 && part != 1) {
            return -1;
        }
        BigInteger divisor = rests.get(kind).gcd(WHOLE);
        return (part == 0 ? rests.get(kind) : WHOLE).divide(divisor).longValueExact();
    }

    long sum(long day) {
        long cents = 0;
        for (int party = 0; party < balances.size(); party++) {
            cents += balance(party, day);
        }
        return cents;
    }

    long clock() {
        return clock;
    }

    private boolean noCustomer(int party) {
        return party < 1 || party >= balances.size();
    }

    private boolean noKind(int kind) {
        return kind < 0 || kind >= prices.size();
    }

    private static boolean noNumber(long n) {
        return n < 1 || n > 100_000;
    }

    private boolean noDay(long day) {
        return day < clock || day > 100_000;
    }

    private long layers() {
        return out.values().stream().mapToLong(ArrayDeque::size).sum();
    }

    private ArrayDeque<long[]> outOf(int party, int kind) {
        return out.computeIfAbsent(Arrays.asList(party, kind), key -> new ArrayDeque<>());
    }

    private long priceOn(int kind, long day) {
        Map.Entry<Long, Long> holding = prices.get(kind).floorEntry(day);
        return holding == null ? 0 : holding.getValue();
    }

    private long takeBack(int party, int kind, long n) {
        ArrayDeque<long[]> layers = outOf(party, kind);
        long cents = 0;
        for (long missing = n; missing > 0; ) {
            long[] oldest = layers.getFirst();
            long taken = Math.min(missing, oldest[1]);
            oldest[1] -= taken;
            missing -= taken;
            cents += taken * oldest[2];
            if (oldest[1] == 0) {
                layers.removeFirst();
            }
        }
        return cents;
    }

    private long worth(int party, long day) {
        long cents = 0;
        for (int kind = 0; kind < prices.size(); kind++) {
            cents += count(party, kind) * priceOn(kind, day);
        }
        return cents;
    }

    private void pay(long day, int payer, int taker, long cents) {
        balances.get(payer).merge(day, -cents, Long::sum);
        balances.get(taker).merge(day, cents, Long::sum);
        clock = day;
    }
}
