import java.math.BigInteger;
import java.util.TreeSet;

/** Arguments of the full range of int and long, those among them that wrap around to small ones. */
final class Far {
    /** What the class, or a class that is built another way, may multiply an argument by. */
    private static final long[] FACTORS = {30, 10_000, 100_000};

    private Far() {
    }

    /** Ints below least and above most: the first ones on both sides, the last ones, and many between. */
    static int[] intsOutside(int least, int most) {
        return outside(least, most, 32).stream().mapToInt(Long::intValue).toArray();
    }

    /** Longs below least and above most: the first ones on both sides, the last ones, and many between. */
    static long[] longsOutside(long least, long most) {
        return outside(least, most, 64).stream().mapToLong(Long::longValue).toArray();
    }

    static int[] ints() {
        TreeSet<Long> all = outside(0, 0, 32);
        all.add(0L);
        return all.stream().mapToInt(Long::intValue).toArray();
    }

    static long[] longs() {
        TreeSet<Long> all = outside(0, 0, 64);
        all.add(0L);
        return all.stream().mapToLong(Long::longValue).toArray();
    }

    private static TreeSet<Long> outside(long least, long most, int bits) {
        TreeSet<Long> found = new TreeSet<>();
        for (int bit = 0; bit < 64; bit++) {
            addAround(found, BigInteger.TWO.pow(bit), bits);
        }
        for (long factor : FACTORS) {
            for (int bit = 31; bit <= 64; bit++) {
                addAround(found, BigInteger.TWO.pow(bit).divide(BigInteger.valueOf(factor)), bits);
            }
        }
        addAround(found, BigInteger.valueOf(least), bits);
        addAround(found, BigInteger.valueOf(most), bits);
        addAround(found, BigInteger.valueOf(most).add(BigInteger.TWO.pow(32)), bits);
        found.removeIf(value -> value >= least && value <= most);
        return found;
    }

    private static void addAround(TreeSet<Long> found, BigInteger middle, int bits) {
        for (int step = -1; step <= 1; step++) {
            addIfFits(found, middle.add(BigInteger.valueOf(step)), bits);
            addIfFits(found, middle.negate().add(BigInteger.valueOf(step)), bits);
        }
    }

    private static void addIfFits(TreeSet<Long> found, BigInteger value, int bits) {
        if (value.bitLength() < bits) {
            found.add(value.longValueExact());
        }
    }
}
