import java.util.Random;

/** Holds PloughDepot against DepotModel, call by call, over runs that a fixed seed makes. */
public final class RandomRunsTest {
    private static final int[] EDGES = {Integer.MIN_VALUE, -32769, -32768, -1000, -2, -1, 0, 1, 2, 3, 7, 8, 14, 19, 20, 21, 49, 50,
        51, 59, 60, 61, 149, 150, 199, 200, 201, 9999, 10000, 10001, 32767, 32768, 65535, 65536, 1 << 24, (1 << 24) + 1, Integer.MAX_VALUE};
    private static final int OPS = 41;
    /** The shapes of towns (LOOP: many STREETS side by side, and one long way back); others are made at random. */
    private static final int RING = 0, TREE = 1, LOOP = 2;

    private final Random dice;
    private final PloughDepot real = new PloughDepot();
    private final DepotModel model = new DepotModel();
    private final StringBuilder told = new StringBuilder();
    private int most, lengths;
    private double oneWays;

    private RandomRunsTest(long seed) {
        dice = new Random(seed);
    }

    public static void main(String[] args) {
        int runs = args.length > 0 ? Integer.parseInt(args[0]) : 600;
        long start = args.length > 1 ? Long.parseLong(args[1]) : 1;
        long[] seen = new long[12];
        for (long seed = start; seed < start + runs; seed++) {
            String wrong = new RandomRunsTest(seed).run(seen);
            if (wrong != null) {
                System.out.println("seed " + seed + ": " + wrong);
                System.exit(1);
            }
        }
        System.out.println(runs + " runs are as the model's; rounds by A " + seen[1] + ", by B " + seen[2] + ", with joining " + seen[3]
            + ", with exchanges " + seen[4] + ", with pairs " + seen[5] + ", refused " + seen[6] + " NO, " + seen[7] + " FULL; splits "
            + seen[8] + ", drives gone " + seen[9] + ", undone " + seen[10]);
    }

    private String run(long[] seen) {
        most = 2 + dice.nextInt(dice.nextInt(4) == 0 ? 59 : 12);
        lengths = dice.nextInt(3) == 0 ? 10000 : 1 + dice.nextInt(12);
        oneWays = dice.nextInt(3) == 0 ? 0.3 : dice.nextInt(3) == 0 ? 0.02 : 0;
        int shape = dice.nextInt(8);
        if (shape == TREE) {
            most = 25 + dice.nextInt(36);
            oneWays = 0;
        }
        if (shape == LOOP) {
            most = 10 + dice.nextInt(20);
        }
        int streets = Math.min(150, shape == LOOP ? most + dice.nextInt(100) : 1 + dice.nextInt(3 * most));
        String wrong = null;
        for (int k = 0; k < most && wrong == null; k += 20) {
            wrong = call(0, Math.min(20, most - k), 0, 0, 0, 0, seen);
        }
        for (int k = 0; k < streets && wrong == null; k++) {
            int a = shape == RING ? k % most : shape == TREE ? (k + 1) % most : dice.nextInt(most);
            int b = shape == RING ? (k + 1) % most : shape == TREE && k + 1 < most ? dice.nextInt(k + 1) : dice.nextInt(most);
            if (shape == LOOP) {
                a = k < most ? k : 0;
                b = k < most ? (k + 1) % most : 1;
            }
            wrong = call(1, a, b, 1 + dice.nextInt(lengths), shape == LOOP || dice.nextDouble() < oneWays ? 1 : 0, 0, seen);
            if (wrong == null && (shape == LOOP || dice.nextInt(shape == TREE ? 12 : 3) == 0)) {
                wrong = call(4, k, shape == LOOP ? k < most ? 0 : 2 : dice.nextInt(3), 0, 0, 0, seen);
            }
        }
        int calls = 100 + dice.nextInt(150);
        for (int k = 0; k < calls && wrong == null; k++) {
            wrong = anyCall(seen);
        }
        return wrong == null ? null : told + wrong;
    }

    private int crossing() {
        return edgyOr(model.st.crossings);
    }

    private int edgyOr(int bound) {
        return dice.nextInt(25) == 0 ? EDGES[dice.nextInt(EDGES.length)] : dice.nextInt(Math.max(1, bound));
    }

    private int edge() {
        return EDGES[dice.nextInt(EDGES.length)];
    }

    private int hour() {
        return dice.nextInt(8) == 0 ? edge() : dice.nextInt(8);
    }

    private int readingValue() {
        switch (dice.nextInt(6)) {
            case 0: return edge();
            case 1: return dice.nextInt();
            default: return dice.nextInt(900) - 50;
        }
    }

    private int minutes() {
        return dice.nextInt(12) == 0 ? edge() : dice.nextInt(3) == 0 ? 10000 : dice.nextInt(600);
    }

    private String anyCall(long[] seen) {
        int op = dice.nextInt(OPS);
        // what makes a run rich comes more often
        if (dice.nextInt(3) == 0) op = new int[] {8, 9, 11, 16, 18, 25, 29, 31, 31, 31, 36, 35}[dice.nextInt(12)];
        int s = edgyOr(model.st.streets.size());
        int g = edgyOr(model.st.gauges.size());
        int p = edgyOr(model.st.ploughs.size());
        int bit = dice.nextBoolean() ? 1 : 0;
        switch (op) {
            case 0: return dice.nextInt(6) == 0 ? call(0, edgyOr(4), 0, 0, 0, 0, seen) : null;
            case 1: return call(1, crossing(), crossing(), dice.nextInt(10) == 0 ? edge() : 1 + dice.nextInt(lengths),
                dice.nextDouble() < oneWays ? 1 : 0, 0, seen);
            case 2: return call(2, s, oneWays > 0 || dice.nextInt(8) == 0 ? bit : 0, 0, 0, 0, seen);
            case 3: return call(3, s, dice.nextInt(3) == 0 ? 1 : 0, 0, 0, 0, seen);
            case 4: return call(4, s, edgyOr(3), 0, 0, 0, seen);
            case 5: return call(5, s, edgyOr(9), 0, 0, 0, seen);
            case 6: return call(6, crossing(), crossing(), 0, 0, 0, seen);
            case 7: return call(7, crossing(), crossing(), edgyOr(6), 0, 0, seen);
            case 8: return call(8, crossing(), bit, 0, 0, 0, seen);
            case 9: return call(9, g, dice.nextInt(8) == 0 ? edge() : 3 + dice.nextInt(8), 0, 0, 0, seen);
            case 10: return dice.nextInt(3) == 0 ? call(10, g, 0, 0, 0, 0, seen) : null;
            case 11: return call(11, g, hour(), readingValue(), 0, 0, seen);
            case 12: return call(12, g, hour(), edgyOr(2), 0, 0, seen);
            case 13: return call(13, g, hour(), 0, 0, 0, seen);
            case 14: return call(14, g, hour(), dice.nextBoolean() ? g : edgyOr(model.st.gauges.size()), hour(), dice.nextInt(5) == 0 ? edge() : dice.nextInt(4), seen);
            case 15: return call(15, hour(), hour(), dice.nextInt(5) == 0 ? edge() : dice.nextInt(4), 0, 0, seen);
            case 16: return call(16, hour(), 0, 0, 0, 0, seen);
            case 17: return call(17, dice.nextInt(3) == 0 ? edge() : dice.nextInt(500), dice.nextInt(4) == 0 ? dice.nextInt() : 1 + dice.nextInt(90), 0, 0, 0, seen);
            case 18: return call(18, edgyOr(4), minutes(), 0, 0, 0, seen);
            case 19: return dice.nextInt(2) == 0 ? call(19, p, edgyOr(model.st.ploughs.size()), minutes(), 0, 0, seen) : null;
            case 20: return dice.nextInt(4) == 0 ? call(20, p, 0, 0, 0, 0, seen) : null;
            case 21: return call(21, p, s, edgyOr(4), 0, 0, seen);
            case 22: return call(22, p, s, 0, 0, 0, seen);
            case 23: return call(23, edgyOr(16), 0, 0, 0, 0, seen);
            case 24: return call(24, dice.nextInt(4) == 0 ? edge() : dice.nextInt(1 << dice.nextInt(15)), 0, 0, 0, 0, seen);
            case 25: return call(25, 0, 0, 0, 0, 0, seen);
            case 26: return call(26, edgyOr(model.st.drives.size() + 1), edgyOr(4), 0, 0, 0, seen);
            case 27: return call(27, edgyOr(7), 0, 0, 0, 0, seen);
            case 28: return call(28, crossing(), 0, 0, 0, 0, seen);
            case 29: return call(29, 0, 0, 0, 0, 0, seen);
            case 30: return call(30, p, edgyOr(9), 0, 0, 0, seen);
            case 31: return call(31, p, dice.nextInt(20) == 0 ? edge() : 1 + dice.nextInt(12), 0, 0, 0, seen);
            case 37: return call(37, edgyOr(5), 0, 0, 0, 0, seen);
            case 34: return call(34, edgyOr(model.text.length() + 1), 0, 0, 0, 0, seen);
            case 36: return dice.nextInt(3) == 0 ? call(36, 0, 0, 0, 0, 0, seen) : null;
            case 40: return call(40, edgyOr(4), 0, 0, 0, 0, seen);
            default: return call(op, 0, 0, 0, 0, 0, seen);
        }
    }

    private String call(int op, int a, int b, int c, int d, int e, long[] seen) {
        told.append(NAMES[op]).append('(').append(a).append(", ").append(b).append(", ").append(c).append(", ").append(d).append(", ").append(e).append(")");
        int got = onReal(op, a, b, c, d, e);
        int want = onModel(op, a, b, c, d, e);
        told.append(" -> ").append(got).append('\n');
        tally(op, want, seen);
        if (got != want) return "due is " + want;
        if (real.status() != model.status) return "status " + real.status() + ", due is " + model.status;
        if (real.trace() != model.trace) return "trace " + real.trace() + ", due is " + model.trace;
        if (real.looks() != model.looks) return "looks " + real.looks() + ", due is " + model.looks;
        for (int k = 0; k < 5; k++) {
            if (real.findings(k) != model.findings[k]) return "findings " + k + " " + real.findings(k) + ", due is " + model.findings[k];
        }
        if (op != 35 && real.digest() != model.digest()) return "digest differs";
        // a digest of its own puts STATUS to 0 on both sides
        return null;
    }

    private void tally(int op, int answer, long[] seen) {
        if (op == 25 && answer >= 0) {
            seen[model.st.made]++;
            if (model.st.joinings > 0) seen[3]++;
            if (model.st.exchanges > 0) seen[4]++;
            if (model.st.pairs > 0) seen[5]++;
        }
        if (op == 25 && answer == DepotModel.NO) seen[6]++;
        if (op == 25 && answer == DepotModel.FULL) seen[7]++;
        if (op == 29 && answer == 1 && !model.st.drives.isEmpty()) seen[8]++;
        if (op == 31 && answer > 0) seen[9] += answer;
        if (op == 36) seen[10] += answer;
    }

    private static final String[] NAMES = {"crossings", "street", "oneWay", "shut", "sides", "told", "way", "wayAt", "gauge", "row", "lose",
        "reading", "none", "read", "copy", "copies", "snow", "melt", "plough", "pair", "out", "asks", "salt", "odd", "least", "round", "at",
        "length", "partner", "split", "part", "go", "looks", "text", "sign", "digest", "undo", "findings", "status", "trace", "count"};

    private int onReal(int op, int a, int b, int c, int d, int e) {
        switch (op) {
            case 0: return real.crossings(a);
            case 1: return real.street(a, b, c, d == 1);
            case 2: return real.oneWay(a, b == 1);
            case 3: return real.shut(a, b == 1);
            case 4: return real.sides(a, b);
            case 5: return real.told(a, b);
            case 6: return real.way(a, b);
            case 7: return real.wayAt(a, b, c);
            case 8: return real.gauge(a, b == 1);
            case 9: return real.row(a, b);
            case 10: return real.lose(a);
            case 11: return real.reading(a, b, c);
            case 12: return real.none(a, b, c);
            case 13: return real.read(a, b);
            case 14: return real.copy(a, b, c, d, e);
            case 15: return real.copies(a, b, c);
            case 16: return real.snow(a);
            case 17: return real.melt(a, b);
            case 18: return real.plough(a, b);
            case 19: return real.pair(a, b, c);
            case 20: return real.out(a);
            case 21: return real.asks(a, b, c);
            case 22: return real.salt(a, b);
            case 23: return real.odd(a);
            case 24: return real.least(a);
            case 25: return real.round();
            case 26: return real.at(a, b);
            case 27: return real.length(a);
            case 28: return real.partner(a);
            case 29: return real.split();
            case 30: return real.part(a, b);
            case 31: return real.go(a, b);
            case 32: return real.looks();
            case 33: return real.text();
            case 34: return real.sign(a);
            case 35: return real.digest();
            case 36: return real.undo();
            case 37: return real.findings(a);
            case 38: return real.status();
            case 39: return real.trace();
            default: return real.count(a);
        }
    }

    private int onModel(int op, int a, int b, int c, int d, int e) {
        switch (op) {
            case 0: return model.crossings(a);
            case 1: return model.street(a, b, c, d == 1);
            case 2: return model.oneWay(a, b == 1);
            case 3: return model.shut(a, b == 1);
            case 4: return model.sides(a, b);
            case 5: return model.told(a, b);
            case 6: return model.way(a, b);
            case 7: return model.wayAt(a, b, c);
            case 8: return model.gauge(a, b == 1);
            case 9: return model.row(a, b);
            case 10: return model.lose(a);
            case 11: return model.reading(a, b, c);
            case 12: return model.none(a, b, c);
            case 13: return model.read(a, b);
            case 14: return model.copy(a, b, c, d, e);
            case 15: return model.copies(a, b, c);
            case 16: return model.snow(a);
            case 17: return model.melt(a, b);
            case 18: return model.plough(a, b);
            case 19: return model.pair(a, b, c);
            case 20: return model.out(a);
            case 21: return model.asks(a, b, c);
            case 22: return model.salt(a, b);
            case 23: return model.odd(a);
            case 24: return model.least(a);
            case 25: return model.round();
            case 26: return model.at(a, b);
            case 27: return model.length(a);
            case 28: return model.partner(a);
            case 29: return model.split();
            case 30: return model.part(a, b);
            case 31: return model.go(a, b);
            case 32: return model.looks();
            case 33: return model.text();
            case 34: return model.sign(a);
            case 35: return model.digest();
            case 36: return model.undo();
            case 37: return model.findings(a);
            case 38: return model.status();
            case 39: return model.trace();
            default: return model.count(a);
        }
    }
}
