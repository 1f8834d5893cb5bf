import java.util.ArrayList;
import java.util.List;

/** Arguments of the full range of int and long, in every state, held against the model. */
public final class FullRange {
    private static final int[] FEW_INTS = {1, 2};
    private static final long[] FEW_LONGS = {1, 60, 100_000};

    private final Due due;
    private final State state;
    private KegDeposits x;
    private Model model;
    private int room;

    private FullRange(Due due, State state) {
        this.due = due;
        this.state = state;
        startAnew();
    }

    public static void main(String[] args) {
        Due due = new Due("full range");
        List<Call> calls = calls();
        for (State state : State.all()) {
            FullRange range = new FullRange(due, state);
            for (Call call : calls) {
                range.make(call);
            }
            range.showAll(calls.get(calls.size() - 1));
            goOnFreely(state, calls);
        }
        due.end();
    }

    /** What an object answers after its 512th call is free, but it must not throw, nor fail to end. */
    private static void goOnFreely(State state, List<Call> calls) {
        KegDeposits x = state.object();
        for (Call call : calls) {
            call.on(x);
        }
    }

    private void startAnew() {
        x = state.object();
        model = state.model();
        room = state.room();
    }

    private void make(Call call) {
        long got = call.on(x);
        due.is("state " + state.name() + ": " + call, got, call.on(model));
        room--;
        if (got != call.refusal() || room == 0) {
            showAll(call);
            startAnew();
        }
    }

    private void showAll(Call last) {
        for (Call call : state.later()) {
            due.is("state " + state.name() + ": some calls after " + last + ", " + call, call.on(x), call.on(model));
        }
    }

    /** In each place of each method every number of the full range, beside a few in the other places. */
    private static List<Call> calls() {
        List<Call> calls = new ArrayList<>();
        for (int number : Far.ints()) {
            withInt(calls, number);
        }
        for (long number : Far.longs()) {
            withLong(calls, number);
        }
        for (int other : FEW_INTS) {
            for (int month : Far.ints()) {
                calls.add(Call.of("settle", other, 3 - other, month));
                calls.add(Call.of("settle", other, other, month));
            }
        }
        return calls;
    }

    private static void withInt(List<Call> calls, int number) {
        for (long day : FEW_LONGS) {
            calls.add(Call.of("price", number, day, 5));
            calls.add(Call.of("sampled", number, 1, day));
            calls.add(Call.of("share", number, 1, day == 60 ? 2 : 1));
            calls.add(Call.of("balance", number, day));
            for (int other : FEW_INTS) {
                calls.add(Call.of("out", number, other, 1, day));
                calls.add(Call.of("out", other, number, 1, day));
                calls.add(Call.of("back", number, other, 1, day));
                calls.add(Call.of("back", other, number, 1, day));
                calls.add(Call.of("settle", number, other, day / 30));
                calls.add(Call.of("settle", other, number, day / 30));
            }
        }
        for (int other : FEW_INTS) {
            calls.add(Call.of("count", number, other));
            calls.add(Call.of("count", other, number));
            calls.add(Call.of("lost", number, other));
            calls.add(Call.of("lost", other, number));
            calls.add(Call.of("rest", number, other - 1));
            calls.add(Call.of("rest", other, number));
        }
    }

    private static void withLong(List<Call> calls, long number) {
        for (int kind : FEW_INTS) {
            for (long other : FEW_LONGS) {
                calls.add(Call.of("price", kind, number, other));
                calls.add(Call.of("price", kind, other, number));
                calls.add(Call.of("out", 1, kind, number, other));
                calls.add(Call.of("out", 1, kind, other, number));
                calls.add(Call.of("back", 1, kind, number, other));
                calls.add(Call.of("back", 1, kind, other, number));
                calls.add(Call.of("sampled", kind, number, other));
                calls.add(Call.of("sampled", kind, other, number));
            }
            for (long other : new long[] {-1, 0, 1, 2, 10_000}) {
                calls.add(Call.of("share", kind, number, other));
                calls.add(Call.of("share", kind, other, number));
            }
            calls.add(Call.of("share", kind, number, number));
            calls.add(Call.of("sampled", 3, number, 60));
            calls.add(Call.of("out", kind, kind, number, number));
            calls.add(Call.of("back", kind, kind, number, number));
            calls.add(Call.of("balance", kind, number));
        }
        calls.add(Call.of("balance", 0, number));
        calls.add(Call.of("sum", number));
    }
}
