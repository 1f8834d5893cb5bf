import java.util.ArrayList;
import java.util.Arrays;
import java.util.List;
import java.util.Set;
import java.util.TreeSet;

/** A refused call, and one that only asks, changes nothing that a later call shows. */
public final class RefusedCalls {
    private static final int[] NUMBERS = {Integer.MIN_VALUE, -1, 0, 1, 2, 3, 4, 23, 24, Integer.MAX_VALUE};
    private static final int[] KINDS = {Integer.MIN_VALUE, -1, 0, 2, 3, 11, 12, Integer.MAX_VALUE};
    private static final int[] MONTHS =
            {Integer.MIN_VALUE, -1, 0, 1, 2, 3, 3333, 3334, 143_165_577, 1 << 30, Integer.MAX_VALUE};
    private static final long[] DAYS = {Long.MIN_VALUE, -1, 0, 59, 60, 100_000, 100_001, 1L << 32, Long.MAX_VALUE};
    private static final long[] PIECES =
            {Long.MIN_VALUE, -1, 0, 1, 40, 100_000, 100_001, (1L << 32) + 1, 1L << 60, Long.MAX_VALUE};

    public static void main(String[] args) {
        Due due = new Due("refused calls");
        Set<String> refused = new TreeSet<>();
        for (State state : State.all()) {
            due.done("state " + state.name() + " leaves room for a call", state.room() > 0);
            long[] untouched = laterAnswers(state, state.object());
            for (Call call : calls()) {
                KegDeposits x = state.object();
                if (call.on(x) == call.refusal() || onlyAsks(call)) {
                    refused.add(call.name());
                    compare(due, state, call, laterAnswers(state, x), untouched);
                }
            }
        }
        due.is("methods that were refused or only ask: " + refused, refused.size(), 13);
        due.end();
    }

    private static boolean onlyAsks(Call call) {
        return List.of("balance", "count", "lost", "rest", "sum").contains(call.name());
    }

    private static long[] laterAnswers(State state, KegDeposits x) {
        return state.later().stream().mapToLong(call -> call.on(x)).toArray();
    }

    private static void compare(Due due, State state, Call call, long[] got, long[] untouched) {
        int different = Math.max(0, Arrays.mismatch(got, untouched));
        due.is("state " + state.name() + ": after " + call + ", " + state.later().get(different),
                got[different], untouched[different]);
    }

    private static List<Call> calls() {
        List<Call> calls = new ArrayList<>(List.of(Call.of("party"), Call.of("kind")));
        addMoves(calls);
        addPricesAndShares(calls);
        for (int party : NUMBERS) {
            for (int other : NUMBERS) {
                for (int month : MONTHS) {
                    calls.add(Call.of("settle", party, other, month));
                }
                calls.add(Call.of("count", party, other));
            }
            for (long day : DAYS) {
                calls.add(Call.of("balance", party, day));
            }
        }
        for (int kind : KINDS) {
            for (int months : MONTHS) {
                calls.add(Call.of("lost", kind, months));
                calls.add(Call.of("rest", kind, months));
            }
        }
        for (long day : DAYS) {
            calls.add(Call.of("sum", day));
        }
        return calls;
    }

    private static void addMoves(List<Call> calls) {
        for (int party : NUMBERS) {
            for (long n : PIECES) {
                for (long day : DAYS) {
                    for (int kind : KINDS) {
                        calls.add(Call.of("out", party, kind, n, day));
                        calls.add(Call.of("back", party, kind, n, day));
                    }
                    calls.add(Call.of("sampled", party, n, day));
                }
            }
        }
    }

    private static void addPricesAndShares(List<Call> calls) {
        for (int kind : KINDS) {
            for (long day : DAYS) {
                for (long cents : DAYS) {
                    calls.add(Call.of("price", kind, day, cents));
                }
            }
            for (long above : PIECES) {
                for (long below : new long[] {Long.MIN_VALUE, -1, 0, 1, 3, 10_000, 10_001, 1L << 32, Long.MAX_VALUE}) {
                    calls.add(Call.of("share", kind, above, below));
                }
            }
        }
    }
}
