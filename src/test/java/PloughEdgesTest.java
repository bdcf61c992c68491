/** The edges of PLOUGHS: the terms of 3, and promises 20 to 24, sentence by sentence. */
public final class PloughEdgesTest extends Edges {
    private static final int[] SPEED = {50, 30, 45, 20};
    private static final int[] REACH = {200, 600, 200, 400};

    private static final Town FULL_OF_PLOUGHS = and(line(2, 100), x -> {
        for (int p = 0; p < 12; p++) {
            x.plough(p % 4, 100);
        }
        return 0;
    });

    public static void main(String[] args) {
        howManyPloughs();
        kinds();
        speedsAndReaches();
        whatTheyTake();
        whatPairsTake();
        passes();
        passesOfPairs();
        theTrace();
        minutesOfDrives();
        ploughCall();
        pairCall();
        pairRefusals();
        outCall();
        asksCall();
        saltCall();
        end();
    }

    /** One STREET of so much LENGTH, and a PLOUGH of each KIND. */
    private static Town street(int length) {
        return and(line(2, length), x -> x.plough(0, 100), x -> x.plough(1, 100), x -> x.plough(2, 100), x -> x.plough(3, 100));
    }

    /** STREET 0 with so much DRIFT, and a PLOUGH of each KIND. */
    private static Town drift(int tenths) {
        return and(street(100), snowOf(tenths));
    }

    // ---- the terms

    private static void howManyPloughs() {
        says("Terms 3", "PLOUGHS 0, 1, .. (12)");
        change(and(FULL_OF_PLOUGHS, PloughDepot::undo), 11, x -> x.plough(3, 100));
        change(and(FULL_OF_PLOUGHS, PloughDepot::undo), 11, x -> x.pair(0, 1, 100));
        refused(FULL_OF_PLOUGHS, FULL, x -> x.plough(0, 100));
        refused(FULL_OF_PLOUGHS, FULL, x -> x.pair(0, 1, 100));
        PloughDepot x = made(FULL_OF_PLOUGHS);
        due(12, x.count(3));
        due(3, x.part(11, 6));
        due(BAD, x.part(12, 6));
        // those that are OUT are still there
        refused(and(FULL_OF_PLOUGHS, y -> y.out(0), y -> y.out(1)), FULL, y -> y.plough(0, 100));
    }

    private static void kinds() {
        says("Terms 3", "are of KINDS 0 TRUCK, 1 BLOWER, 2 SALTER, 3 TRACTOR, 4 PAIR (of two of the others)");
        PloughDepot x = made(and(street(100), y -> y.pair(0, 1, 100)));
        due(2, x.part(2, 6));
        due(3, x.part(3, 6));
        due(4, x.part(4, 6));
        for (int kind = 0; kind < 4; kind++) {
            due(kind, made(street(100)).part(kind, 6));
        }

        says("Terms 3", "and may be OUT");
        due(NONE, x.part(0, 6));
        due(NONE, x.part(1, 6));
    }

    private static void speedsAndReaches() {
        says("Terms 3", "SPEED: TRUCK 50, BLOWER 30, SALTER 45, TRACTOR 20.");
        for (int kind = 0; kind < 4; kind++) {
            int p = kind;
            noChange(street(100), SPEED[kind], x -> x.asks(p, 0, 0));
        }
        says("Terms 3", "REACH: TRUCK 200, BLOWER 600, SALTER 200, TRACTOR 400.");
        for (int kind = 0; kind < 4; kind++) {
            int p = kind;
            noChange(street(100), REACH[kind], x -> x.asks(p, 0, 1));
        }
        says("Terms 3", "A PAIR: the lesser SPEED, both REACHES together.");
        for (int p = 0; p < 4; p++) {
            for (int q = 0; q < 4; q++) {
                PloughDepot x = made(and(street(100), y -> y.plough(0, 1), y -> y.plough(1, 1), y -> y.plough(2, 1), y -> y.plough(3, 1)));
                due(8, x.pair(p, q + 4, 100));
                due(Math.min(SPEED[p], SPEED[q]), x.asks(8, 0, 0));
                due(REACH[p] + REACH[q], x.asks(8, 0, 1));
            }
        }
    }

    private static void dueTakes(int length, int... want) {
        for (int p = 0; p < 4; p++) {
            due(want[p], made(street(length)).asks(p, 0, 2));
        }
    }

    private static void whatTheyTake() {
        says("Terms 3", "LENGTH / SPEED, rounded up (1).");
        // TRUCK, BLOWER, SALTER (2 more), TRACTOR (1 more): the least, and on both sides of each SPEED
        dueTakes(1, 1, 1, 3, 2);
        dueTakes(50, 1, 2, 4, 4);
        dueTakes(51, 2, 2, 4, 4);
        dueTakes(30, 1, 1, 3, 3);
        dueTakes(31, 1, 2, 3, 3);
        dueTakes(10000, 200, 334, 225, 501);

        says("Terms 3", "TRACTOR: 1 more than that (10, and 1).");
        dueTakes(20, 1, 1, 3, 2);
        dueTakes(21, 1, 1, 3, 3);
        dueTakes(40, 1, 2, 3, 3);
        dueTakes(41, 1, 2, 3, 4);

        says("Terms 3", "SALTER: 2 more than that (20, and 1).");
        dueTakes(45, 1, 2, 3, 4);
        dueTakes(46, 1, 2, 4, 4);
        dueTakes(90, 2, 3, 4, 6);
        dueTakes(91, 2, 4, 5, 6);
    }

    private static int takesOfPair(int length, int p, int q) {
        return made(and(street(length), x -> x.pair(p, q, 100))).asks(4, 0, 2);
    }

    private static void whatPairsTake() {
        says("Terms 3", "PAIR: the greater of what both TAKE, the first asked first (5, and theirs).");
        // BLOWER and SALTER: 1 and 3 for 30, 334 and 225 for 10000
        for (int turn = 0; turn < 2; turn++) {
            due(3, takesOfPair(30, 1 + turn, 2 - turn));
            due(334, takesOfPair(10000, 1 + turn, 2 - turn));
            due(2, takesOfPair(20, turn * 3, 3 - turn * 3));
            due(1, takesOfPair(1, turn, 1 - turn));
        }
    }

    private static void duePasses(int tenths, int... want) {
        for (int kind = 0; kind < 4; kind++) {
            int p = kind;
            if (want[p] == DEEP) {
                refused(drift(tenths), DEEP, x -> x.asks(p, 0, 3));
            } else {
                noChange(drift(tenths), want[p], x -> x.asks(p, 0, 3));
            }
        }
    }

    private static void passes() {
        says("Terms 3", "1 up to REACH, 2 up to twice REACH, else it is TOO DEEP (100).");
        duePasses(0, 1, 1, 1, 1);
        duePasses(200, 1, 1, 1, 1);
        duePasses(201, 2, 1, 2, 1);
        duePasses(400, 2, 1, 2, 1);
        duePasses(401, DEEP, 1, DEEP, 2);
        duePasses(800, DEEP, 3, DEEP, 2);
        duePasses(801, DEEP, 3, DEEP, DEEP);

        says("Terms 3", "BLOWER: 1 up to REACH, 3 up to three times that, else TOO DEEP (1000).");
        duePasses(600, DEEP, 1, DEEP, 2);
        duePasses(601, DEEP, 3, DEEP, 2);
        duePasses(1200, DEEP, 3, DEEP, DEEP);
        duePasses(1201, DEEP, 3, DEEP, DEEP);
        duePasses(1800, DEEP, 3, DEEP, DEEP);
        duePasses(1801, DEEP, DEEP, DEEP, DEEP);
        duePasses(32766, DEEP, DEEP, DEEP, DEEP);
        PloughDepot x = made(and(street(100), y -> y.gauge(0, false), y -> y.row(0, 1), y -> y.reading(0, 0, MAX), y -> y.snow(0)));
        due(100000, x.told(0, 0));
        for (int p = 0; p < 4; p++) {
            due(DEEP, x.asks(p, 0, 3));
        }
        due(4, x.findings(4));
    }

    private static void passesOfPairs() {
        says("Terms 3", "PAIR: 1 up to its REACH, 2 up to twice that, else TOO DEEP (10000).");
        // of two TRUCKS, BLOWER and SALTER, two BLOWERS: not as the BLOWER answers by itself
        int[][] kindsAndReach = {{0, 0, 400}, {1, 2, 800}, {2, 1, 800}, {1, 1, 1200}, {3, 3, 800}};
        for (int[] one : kindsAndReach) {
            for (int edge = 0; edge < 4; edge++) {
                int tenths = edge == 0 ? one[2] : edge == 1 ? one[2] + 1 : edge == 2 ? 2 * one[2] : 2 * one[2] + 1;
                Town town = and(line(2, 100), x -> x.plough(one[0], 5), x -> x.plough(one[1], 5), x -> x.pair(0, 1, 5), snowOf(tenths));
                if (edge == 3) {
                    refused(town, DEEP, x -> x.asks(2, 0, 3));
                } else {
                    noChange(town, edge == 0 ? 1 : 2, x -> x.asks(2, 0, 3));
                }
            }
        }
    }

    private static int traceOf(Town town, Call call) {
        PloughDepot x = made(town);
        int was = x.trace();
        call.on(x);
        return x.trace() - was;
    }

    private static void theTrace() {
        says("Terms 3", "BODIES that run are summed up in THE TRACE");
        int[] takes = {1, 1, 20 + 1, 10 + 1};
        int[] passes = {100, 1000, 100, 100};
        for (int kind = 0; kind < 4; kind++) {
            int p = kind;
            due(0, traceOf(street(100), x -> x.asks(p, 0, 0)));
            due(0, traceOf(street(100), x -> x.asks(p, 0, 1)));
            due(takes[p], traceOf(street(100), x -> x.asks(p, 0, 2)));
            // the same for each answer, TOO DEEP too
            for (int tenths : new int[] {0, 300, 700, 2000}) {
                due(passes[p], traceOf(drift(tenths), x -> x.asks(p, 0, 3)));
            }
            for (int other = 0; other < 4; other++) {
                int q = other;
                Town pair = and(street(100), x -> x.plough(q, 100), x -> x.pair(p, 4, 100));
                due(0, traceOf(pair, x -> x.asks(5, 0, 0)));
                due(0, traceOf(pair, x -> x.asks(5, 0, 1)));
                due(5 + takes[p] + takes[q], traceOf(pair, x -> x.asks(5, 0, 2)));
                due(10000, traceOf(pair, x -> x.asks(5, 0, 3)));
                due(10000, traceOf(and(pair, snowOf(9999)), x -> x.asks(5, 0, 3)));
            }
        }
        // no other call asks a PLOUGH
        due(0, traceOf(BUSY, x -> x.salt(5, 0)));
        due(0, traceOf(BUSY, PloughDepot::round));
        due(0, traceOf(BUSY, PloughDepot::text));
        due(0, traceOf(BUSY, PloughDepot::digest));
        due(0, traceOf(BUSY, x -> x.asks(6, 0, 3)));
        due(0, traceOf(BUSY, x -> x.asks(0, 5, 3)));
    }

    private static void minutesOfDrives() {
        says("Terms 3", "one that CLEARS: PASSES are asked; if that is not TOO DEEP, TAKES, and that as often; an EMPTY one: TAKES.");
        // one STREET of 100, out and back: + and -; 2 minutes by a TRUCK
        Town truck = and(line(2, 100), x -> x.plough(0, 100), PloughDepot::round);
        int[][] driftMinutesTrace = {{200, 2 + 2, 100 + 1 + 1}, {201, 2 * 2 + 2, 100 + 1 + 1}, {400, 2 * 2 + 2, 100 + 1 + 1}};
        for (int[] one : driftMinutesTrace) {
            Town town = and(truck, snowOf(one[0]));
            due(one[2], traceOf(town, PloughDepot::split));
            due(one[1], made(and(town, PloughDepot::split)).part(0, 4));
            due(one[2], traceOf(and(town, PloughDepot::split), x -> x.go(0, 2)));
            due(one[1], made(and(town, PloughDepot::split, x -> x.go(0, 2))).part(0, 3));
        }
        due(100, traceOf(and(truck, snowOf(401)), PloughDepot::split));
        // a BLOWER has 3 PASSES of 4 minutes
        Town blower = and(line(2, 100), x -> x.plough(1, 100), PloughDepot::round, snowOf(1800));
        due(1000 + 1 + 1, traceOf(blower, PloughDepot::split));
        due(3 * 4 + 4, made(and(blower, PloughDepot::split)).part(0, 4));
        due(3 * 4 + 4, made(and(blower, PloughDepot::split, x -> x.go(0, 2))).part(0, 3));
    }

    // ---- the promises

    private static void ploughCall() {
        says("Promise 20", "A PLOUGH of a KIND (0 .. 3) with MINUTES (0 .. 10000): its number. A CHANGE.");
        onlyFrom(BUSY, 0, 3, (x, n) -> x.plough(n, 100));
        onlyFrom(BUSY, 0, 10000, (x, n) -> x.plough(0, n));
        for (int kind = 0; kind < 4; kind++) {
            int k = kind;
            change(EMPTY, 0, x -> x.plough(k, 0));
            change(BUSY, 7, x -> x.plough(k, 10000));
            duePart(made(and(BUSY, x -> x.plough(k, 10000))), 7, 0, 0, 0, 0, 0, 10000, k, 0, 0);
            duePart(made(and(EMPTY, x -> x.plough(k, 0))), 0, 0, 0, 0, 0, 0, 0, k, 0, 0);
        }
        // behind one that was undone it is of its own KIND
        PloughDepot x = made(and(line(2, 100), y -> y.plough(2, 5), PloughDepot::undo, y -> y.plough(1, 6)));
        due(30, x.asks(0, 0, 0));
        due(CAST, x.salt(0, 0));
        due(6, x.part(0, 5));

        says("Promise 20", "BAD; FULL.");
        refused(FULL_OF_PLOUGHS, BAD, y -> y.plough(4, 100));
        refused(FULL_OF_PLOUGHS, BAD, y -> y.plough(-1, 100));
        refused(FULL_OF_PLOUGHS, BAD, y -> y.plough(0, -1));
        refused(FULL_OF_PLOUGHS, BAD, y -> y.plough(0, 10001));
        refused(FULL_OF_PLOUGHS, FULL, y -> y.plough(0, 10000));
    }

    private static void pairCall() {
        says("Promise 21", "A PAIR of two PLOUGHS, p the first, which are OUT then (and have no PARTS): its number. A CHANGE.");
        change(BUSY, 7, x -> x.pair(0, 1, 0));
        change(BUSY, 7, x -> x.pair(5, 0, 10000));
        PloughDepot x = made(and(BUSY, y -> y.pair(1, 5, 77)));
        duePart(x, 7, 0, 0, 0, 0, 0, 77, 4, 0, 0);
        duePart(x, 1, 0, 0, 0, 0, 0, 500, NONE, 0, 0);
        duePart(x, 5, 0, 0, 0, 0, 0, 200, NONE, 0, 0);
        duePart(x, 0, 0, 4, 1, 2, 8, 8, 0, 0, 0);
        duePart(made(and(BUSY, y -> y.pair(5, 0, 77))), 0, 0, 0, 0, 0, 0, 8, NONE, 0, 0);
        // what one of the two had is given back with it
        x = made(and(BUSY, y -> y.pair(0, 1, 77), PloughDepot::undo));
        duePart(x, 0, 0, 4, 1, 2, 8, 8, 0, 0, 0);
        due(3, x.go(0, 4));
        // of two of the same KIND
        change(and(line(2, 5), y -> y.plough(2, 1), y -> y.plough(2, 1)), 2, y -> y.pair(0, 1, 1));
    }

    private static void pairRefusals() {
        says("Promise 21", "BAD: also p twice");
        for (int p : new int[] {-1, 7, MIN, MAX}) {
            refused(BUSY, BAD, x -> x.pair(p, 0, 5));
            refused(BUSY, BAD, x -> x.pair(0, p, 5));
        }
        for (int p : new int[] {0, 2, 4}) {
            refused(BUSY, BAD, x -> x.pair(p, p, 5));
        }
        onlyFrom(BUSY, 0, 10000, (x, n) -> x.pair(0, 1, n));
        refused(BUSY, BAD, x -> x.pair(2, 7, 5));
        refused(BUSY, BAD, x -> x.pair(2, 3, -1));

        says("Promise 21", "FULL");
        Town full = and(FULL_OF_PLOUGHS, x -> x.out(11));
        refused(full, BAD, x -> x.pair(0, 0, 5));
        refused(full, BAD, x -> x.pair(0, 1, 10001));
        refused(full, BAD, x -> x.pair(11, 12, 5));
        refused(full, FULL, x -> x.pair(0, 1, 5));
        refused(full, FULL, x -> x.pair(11, 0, 5));
        Town pairLast = and(FULL_OF_PLOUGHS, PloughDepot::undo, x -> x.pair(0, 1, 5));
        refused(pairLast, FULL, x -> x.pair(11, 2, 5));
        refused(pairLast, FULL, x -> x.pair(0, 2, 5));

        says("Promise 21", "NULL, CAST (a PAIR): p, then q.");
        refused(BUSY, NULL, x -> x.pair(2, 0, 5));
        refused(BUSY, NULL, x -> x.pair(0, 2, 5));
        refused(BUSY, NULL, x -> x.pair(6, 3, 5));
        refused(BUSY, CAST, x -> x.pair(4, 0, 5));
        refused(BUSY, CAST, x -> x.pair(0, 4, 5));
        refused(BUSY, NULL, x -> x.pair(2, 4, 5));
        refused(BUSY, CAST, x -> x.pair(4, 2, 5));
        // a PAIR that is OUT is OUT first
        refused(and(BUSY, x -> x.out(4)), NULL, x -> x.pair(4, 0, 5));
        refused(and(BUSY, x -> x.out(4)), NULL, x -> x.pair(0, 4, 5));
    }

    private static void outCall() {
        says("Promise 22", "A PLOUGH is OUT for good (and has no PART): 1; 0: it was. A CHANGE.");
        change(BUSY, 1, x -> x.out(0));
        change(BUSY, 1, x -> x.out(4));
        change(BUSY, 0, x -> x.out(2));
        change(BUSY, 0, x -> x.out(6));
        PloughDepot x = made(and(BUSY, y -> y.out(0)));
        duePart(x, 0, 0, 0, 0, 0, 0, 8, NONE, 0, 0);
        duePart(x, 1, 4, 1, 0, 0, 4, 500, 1, 0, 0);
        due(NULL, x.go(0, 1));
        due(NULL, x.asks(0, 0, 0));
        due(7, x.count(3));
        // for good: neither round() nor split() takes it in again
        due(5, x.round());
        due(1, x.split());
        duePart(x, 0, 0, 0, 0, 0, 0, 8, NONE, 0, 0);
        // a PAIR that is OUT leaves its two OUT
        x = made(and(BUSY, y -> y.out(4)));
        due(NONE, x.part(4, 6));
        due(NULL, x.asks(2, 0, 0));
        due(NULL, x.asks(3, 0, 0));

        says("Promise 22", "BAD.");
        onlyFrom(BUSY, 0, 6, PloughDepot::out);
    }

    private static void asksCall() {
        says("Promise 23", "Asks a PLOUGH: 0 SPEED, 1 REACH, 2 TAKES of a STREET's LENGTH, 3 PASSES of its DRIFT.");
        // the PAIR of SALTER and TRACTOR, and STREETS of their own LENGTH and DRIFT, SHUT or not
        noChange(BUSY, 20, x -> x.asks(4, 0, 0));
        noChange(BUSY, 600, x -> x.asks(4, 4, 1));
        noChange(BUSY, 6, x -> x.asks(4, 0, 2));
        noChange(BUSY, 5, x -> x.asks(4, 4, 2));
        noChange(BUSY, 1, x -> x.asks(4, 4, 3));
        Town deeper = and(BUSY, x -> x.reading(0, 0, 320), x -> x.snow(0));
        noChange(deeper, 2, x -> x.asks(0, 0, 3));

        says("Promise 23", "BAD; NULL; DEEP: TOO DEEP (a FINDING).");
        onlyFrom(BUSY, 0, 3, (x, n) -> x.asks(0, 0, n));
        onlyFrom(BUSY, 0, 4, (x, n) -> x.asks(0, n, 0));
        for (int p : new int[] {-1, 7, MIN, MAX}) {
            refused(BUSY, BAD, x -> x.asks(p, 0, 0));
        }
        for (int what = 0; what < 4; what++) {
            int w = what;
            refused(BUSY, NULL, x -> x.asks(2, 0, w));
            refused(BUSY, NULL, x -> x.asks(6, 0, w));
        }
        refused(BUSY, BAD, x -> x.asks(6, 5, 0));
        refused(BUSY, BAD, x -> x.asks(6, 0, 4));
        Town deep = and(BUSY, x -> x.reading(0, 0, 8000), x -> x.snow(0));
        refused(deep, DEEP, x -> x.asks(0, 0, 3));
        refused(deep, NULL, x -> x.asks(6, 0, 3));
        due(2, made(deep).asks(0, 0, 2));
    }

    private static void saltCall() {
        says("Promise 24", "A SALTER salts a STREET: its DRIFT becomes 50 less, not below 0: DRIFT then. A CHANGE.");
        int[][] drifts = {{0, 0}, {1, 0}, {49, 0}, {50, 0}, {51, 1}, {100, 50}, {32766, 32716}};
        for (int[] one : drifts) {
            Town town = drift(one[0]);
            change(and(town, x -> x.crossings(1)), one[1], x -> x.salt(2, 0));
            due(one[1], made(and(town, x -> x.salt(2, 0))).told(0, 0));
        }
        // only that STREET, a SHUT one too
        PloughDepot x = made(BUSY);
        due(100, x.salt(5, 4));
        dueStreet(x, 4, 100, 0, 0, 1, 1, 1, 70, 3, 4);
        due(166, x.told(3, 0));

        says("Promise 24", "BAD; NULL; CAST: it is no SALTER.");
        for (int p : new int[] {-1, 7, MIN, MAX}) {
            refused(BUSY, BAD, y -> y.salt(p, 0));
        }
        for (int s : new int[] {-1, 5, MIN, MAX}) {
            refused(BUSY, BAD, y -> y.salt(5, s));
            refused(BUSY, BAD, y -> y.salt(2, s));
            refused(BUSY, BAD, y -> y.salt(0, s));
        }
        refused(BUSY, NULL, y -> y.salt(2, 0));
        refused(BUSY, NULL, y -> y.salt(3, 0));
        refused(BUSY, NULL, y -> y.salt(6, 0));
        refused(BUSY, CAST, y -> y.salt(0, 0));
        refused(BUSY, CAST, y -> y.salt(1, 0));
        refused(BUSY, CAST, y -> y.salt(4, 0));
        refused(street(5), CAST, y -> y.salt(3, 0));
        refused(and(BUSY, y -> y.out(5)), NULL, y -> y.salt(5, 0));
    }
}
