import java.util.ArrayList;
import java.util.List;

/** A state to which calls bring an object, with later calls whose answers show all that it holds. */
record State(String name, List<Call> before, List<Call> later) {
    private static final int MOST_CALLS = 512;

    static List<State> all() {
        return List.of(ofNewObject(), ofManyThings(), ofFullPrices(), of399Layers(), of400Layers(),
                ofAllNumbers(), ofTheLastDay());
    }

    /** How many calls may be made between those before and the later ones. */
    int room() {
        return MOST_CALLS - before.size() - later.size();
    }

    KegDeposits object() {
        KegDeposits x = new KegDeposits();
        for (Call call : before) {
            call.on(x);
        }
        return x;
    }

    Model model() {
        Model model = new Model();
        for (Call call : before) {
            call.on(model);
        }
        return model;
    }

    private static State ofNewObject() {
        List<Call> later = new ArrayList<>(asks(1, 1));
        later.addAll(numbers(3));
        later.add(Call.of("share", 1, 1, 1));
        later.add(Call.of("sampled", 1, 1, 0));
        later.add(Call.of("out", 1, 1, 5, 0));
        later.add(Call.of("sampled", 1, 1, 0));
        later.addAll(moves(0));
        later.addAll(asks(3, 3));
        return new State("a new object", List.of(), later);
    }

    private static State ofManyThings() {
        List<Call> before = new ArrayList<>(manyThings());
        for (int day = 0; day < 15; day++) {
            before.add(Call.of("price", 0, 100 + 7 * day, 1000 + day));
        }
        List<Call> later = new ArrayList<>(asks(4, 3));
        later.addAll(moves(60));
        later.addAll(asks(4, 3));
        later.addAll(numbers(2));
        return new State("many things", before, later);
    }

    private static State ofFullPrices() {
        List<Call> before = new ArrayList<>(manyThings());
        for (int day = 0; day < 17; day++) {
            before.add(Call.of("price", 0, 61 + day, 1000 + day));
        }
        List<Call> later = new ArrayList<>();
        for (int day = 60; day < 80; day++) {
            later.add(Call.of("out", 2, 0, 1, day));
            later.add(Call.of("balance", 2, day));
        }
        later.addAll(asks(4, 3));
        later.addAll(moves(79));
        later.addAll(asks(4, 3));
        return new State("20 prices", before, later);
    }

    private static State of399Layers() {
        return ofLayers(399, List.of());
    }

    private static State of400Layers() {
        return ofLayers(400, List.of(Call.of("back", 2, 0, 2, 100)));
    }

    private static State ofLayers(int layers, List<Call> makingRoom) {
        List<Call> before = new ArrayList<>(numbers(2));
        before.add(Call.of("price", 0, 0, 3));
        before.add(Call.of("share", 0, 1, 1));
        for (int i = 0; i < layers; i++) {
            before.add(Call.of("out", 1 + i % 2, i % 3 / 2, 2, i / 4));
        }
        List<Call> later = new ArrayList<>();
        later.add(Call.of("balance", 0, 100_000));
        later.addAll(makingRoom);
        later.add(Call.of("out", 1, 0, 5, 100));
        later.add(Call.of("out", 1, 0, 5, 100));
        later.add(Call.of("sampled", 1, 3, 100));
        later.add(Call.of("out", 2, 1, 5, 101));
        later.add(Call.of("out", 2, 1, 5, 101));
        later.addAll(asks(2, 2));
        return new State(layers + " layers", before, later);
    }

    private static State ofAllNumbers() {
        List<Call> before = new ArrayList<>(numbers(23));
        for (int party = 1; party < 24; party++) {
            before.add(Call.of("price", party % 12, party, party));
            before.add(Call.of("out", party, party % 12, 10 + party, 30));
        }
        before.add(Call.of("share", 11, 1, 1));
        List<Call> later = new ArrayList<>(numbers(1));
        for (int party = 0; party < 25; party++) {
            later.add(Call.of("balance", party, 100_000));
            later.add(Call.of("count", party, party % 12));
            later.add(Call.of("lost", party / 2, 0));
        }
        later.add(Call.of("sampled", 23, 1, 30));
        later.addAll(moves(30));
        later.addAll(asks(24, 12).subList(0, 100));
        return new State("all numbers given", before, later);
    }

    private static State ofTheLastDay() {
        List<Call> before = new ArrayList<>(manyThings());
        before.add(Call.of("price", 0, 100_000, 77));
        before.add(Call.of("out", 1, 0, 5, 100_000));
        List<Call> later = new ArrayList<>(asks(4, 3));
        later.addAll(moves(100_000));
        later.addAll(asks(4, 3));
        return new State("the last day", before, later);
    }

    /** Three customers with three kinds, their prices, shares, rests and layers; the clock at 60. */
    private static List<Call> manyThings() {
        List<Call> calls = new ArrayList<>(numbers(3));
        calls.add(Call.of("price", 0, 0, 100));
        calls.add(Call.of("price", 1, 10, 7));
        calls.add(Call.of("price", 2, 20, 100_000));
        calls.add(Call.of("price", 0, 30, 250));
        calls.add(Call.of("price", 0, 90, 13));
        calls.add(Call.of("share", 0, 1, 2));
        calls.add(Call.of("share", 1, 2499, 10_000));
        calls.add(Call.of("share", 2, 2501, 10_000));
        for (int kind = 0; kind < 3; kind++) {
            calls.add(Call.of("out", 1, kind, 10, 0));
            calls.add(Call.of("out", 1, kind, 20 + kind, 30));
            calls.add(Call.of("out", 2, kind, 7, 31));
        }
        calls.add(Call.of("out", 2, 1, 100_000, 45));
        calls.add(Call.of("out", 3, 0, 100_000, 45));
        calls.add(Call.of("out", 3, 1, 100_000, 45));
        calls.add(Call.of("out", 3, 2, 9, 45));
        calls.add(Call.of("back", 1, 0, 4, 45));
        calls.add(Call.of("sampled", 1, 7, 46));
        calls.add(Call.of("settle", 1, 2, 2));
        return calls;
    }

    private static List<Call> numbers(int howMany) {
        List<Call> calls = new ArrayList<>();
        for (int i = 0; i < howMany; i++) {
            calls.add(Call.of("party"));
            if (i < 12) {
                calls.add(Call.of("kind"));
            }
        }
        return calls;
    }

    private static List<Call> asks(int parties, int kinds) {
        List<Call> calls = new ArrayList<>();
        for (int party = 0; party <= parties; party++) {
            for (long day : new long[] {-1, 0, 31, 60, 99_999, 100_000}) {
                calls.add(Call.of("balance", party, day));
            }
            for (int kind = 0; kind <= kinds; kind++) {
                calls.add(Call.of("count", party, kind));
            }
        }
        for (int kind = 0; kind <= kinds; kind++) {
            for (int months = 0; months <= 3; months++) {
                calls.add(Call.of("lost", kind, months));
            }
            calls.add(Call.of("rest", kind, 0));
            calls.add(Call.of("rest", kind, 1));
        }
        calls.add(Call.of("sum", 60));
        calls.add(Call.of("sum", 100_000));
        return calls;
    }

    /** What shows the clock, the prices from it on, the shares, and how many prices there are. */
    private static List<Call> moves(long clock) {
        List<Call> calls = new ArrayList<>();
        calls.add(Call.of("out", 1, 1, 1, clock - 1));
        calls.add(Call.of("back", 1, 1, 1, clock));
        calls.add(Call.of("sampled", 1, 3, clock));
        calls.add(Call.of("settle", 1, 2, clock / 30));
        calls.add(Call.of("settle", 1, 2, (clock + 29) / 30));
        calls.add(Call.of("balance", 1, clock + 30));
        for (int told = 0; told < 4; told++) {
            calls.add(Call.of("price", 0, 77_000 + told, told));
        }
        for (long day : new long[] {clock, clock + 29, clock + 100, 99_999, 100_000}) {
            for (int kind = 0; kind < 3; kind++) {
                calls.add(Call.of("out", 1, kind, 1, day));
                calls.add(Call.of("balance", 1, day));
            }
        }
        return calls;
    }
}
