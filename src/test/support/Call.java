/** A call of the class with its arguments, to be made on an object and on the model. */
record Call(String name, long a, long b, long c, long d) {
    static Call of(String name, long... arguments) {
        long[] all = new long[4];
        System.arraycopy(arguments, 0, all, 0, arguments.length);
        return new Call(name, all[0], all[1], all[2], all[3]);
    }

    /** The answer of the object; a boolean counts 1 or 0. */
    long on(KegDeposits x) {
        return switch (name) {
            case "party" -> x.party();
            case "kind" -> x.kind();
            case "price" -> x.price((int) a, b, c) ? 1 : 0;
            case "out" -> x.out((int) a, (int) b, c, d) ? 1 : 0;
            case "back" -> x.back((int) a, (int) b, c, d) ? 1 : 0;
            case "sampled" -> x.sampled((int) a, b, c) ? 1 : 0;
            case "share" -> x.share((int) a, b, c) ? 1 : 0;
            case "balance" -> x.balance((int) a, b);
            case "count" -> x.count((int) a, (int) b);
            case "lost" -> x.lost((int) a, (int) b);
            case "settle" -> x.settle((int) a, (int) b, (int) c);
            case "rest" -> x.rest((int) a, (int) b);
            case "sum" -> x.sum(a);
            default -> throw new IllegalArgumentException(name);
        };
    }

    /** The answer of the model; a boolean counts 1 or 0. */
    long on(Model model) {
        return switch (name) {
            case "party" -> model.party();
            case "kind" -> model.kind();
            case "price" -> model.price((int) a, b, c) ? 1 : 0;
            case "out" -> model.out((int) a, (int) b, c, d) ? 1 : 0;
            case "back" -> model.back((int) a, (int) b, c, d) ? 1 : 0;
            case "sampled" -> model.sampled((int) a, b, c) ? 1 : 0;
            case "share" -> model.share((int) a, b, c) ? 1 : 0;
            case "balance" -> model.balance((int) a, b);
            case "count" -> model.count((int) a, (int) b);
            case "lost" -> model.lost((int) a, (int) b);
            case "settle" -> model.settle((int) a, (int) b, (int) c);
            case "rest" -> model.rest((int) a, (int) b);
            case "sum" -> model.sum(a);
            default -> throw new IllegalArgumentException(name);
        };
    }

    /** The answer that tells that the call was refused, or that there is none. */
    long refusal() {
        return switch (name) {
            case "party", "kind" -> KegDeposits.FULL;
            case "settle" -> -2;
            case "count", "lost", "rest" -> KegDeposits.NONE;
            default -> 0;
        };
    }

    @Override
    public String toString() {
        return name + "(" + a + ", " + b + ", " + c + ", " + d + ")";
    }
}
