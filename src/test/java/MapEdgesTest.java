/** The edges of THE MAP: the terms of 1, and promises 1 to 9, sentence by sentence. */
public final class MapEdgesTest extends Edges {
    private static final Town FULL_OF_STREETS = and(crossings(2), x -> {
        for (int s = 0; s < 150; s++) {
            x.street(0, 1, 7, false);
        }
        return 0;
    });

    public static void main(String[] args) {
        howManyCrossings();
        howManyStreets();
        aNewStreet();
        mustBeCleared();
        theWay();
        theWayOfSeveral();
        theLongestWays();
        newObject();
        newObjectRefuses();
        crossingsCall();
        streetCall();
        oneWayCall();
        shutCall();
        sidesCall();
        toldCall();
        wayCall();
        wayAtCall();
        end();
    }

    // ---- the terms

    private static void howManyCrossings() {
        says("Terms 1", "CROSSINGS 0, 1, .. (60 at most)");
        change(crossings(59), 60, x -> x.crossings(1));
        change(crossings(40), 60, x -> x.crossings(20));
        refused(crossings(60), FULL, x -> x.crossings(1));
        refused(crossings(60), FULL, x -> x.crossings(20));
        refused(crossings(59), FULL, x -> x.crossings(2));
        refused(crossings(41), FULL, x -> x.crossings(20));
        PloughDepot x = made(crossings(60));
        due(0, x.way(59, 59));
        due(BAD, x.way(60, 60));
        due(0, x.street(58, 59, 1, false));
        due(0, x.gauge(59, false));
        due(NONE, x.partner(59));
        x = made(crossings(1));
        due(0, x.way(0, 0));
        due(BAD, x.way(1, 1));

        says("Terms 1", "0 is THE DEPOT.");
        x = made(ring(3, 5, false));
        due(3, x.round());
        due(0, x.at(0, 1));
        due(0, x.at(2, 2));
    }

    private static void howManyStreets() {
        says("Terms 1", "STREETS 0, 1, .. (150)");
        change(and(FULL_OF_STREETS, PloughDepot::undo), 149, x -> x.street(1, 0, 7, true));
        refused(FULL_OF_STREETS, FULL, x -> x.street(1, 0, 7, true));
        PloughDepot x = made(FULL_OF_STREETS);
        due(150, x.count(1));
        due(7, x.told(149, 6));
        due(BAD, x.told(150, 6));

        says("Terms 1", "join two CROSSINGS a, b, that are not the same");
        refused(crossings(2), BAD, y -> y.street(0, 0, 5, false));
        refused(crossings(2), BAD, y -> y.street(1, 1, 5, false));
        change(crossings(2), 0, y -> y.street(1, 0, 5, false));

        says("Terms 1", "a LENGTH (1 .. 10000)");
        onlyFrom(crossings(2), 1, 10000, (y, n) -> y.street(0, 1, n, false));
        due(1, made(and(crossings(2), y -> y.street(0, 1, 1, false))).told(0, 6));
        due(10000, made(and(crossings(2), y -> y.street(0, 1, 10000, false))).told(0, 6));
    }

    private static void aNewStreet() {
        Town one = and(crossings(3), x -> x.street(2, 1, 9, true));
        says("Terms 1", "is BOTH WAYS or ONE WAY (from a to b)");
        due(9, made(one).way(2, 1));
        due(NO, made(one).way(1, 2));
        due(9, made(and(one, x -> x.oneWay(0, false))).way(1, 2));

        says("Terms 1", "OPEN (at first) or SHUT");
        due(0, made(one).told(0, 4));

        says("Terms 1", "has SIDES (0 .. 2; 1 at first)");
        due(1, made(one).told(0, 3));
        onlyFrom(one, 0, 2, (x, n) -> x.sides(0, n));

        says("Terms 1", "a DRIFT (tenths of a centimetre, 0 .. 100000; 0 at first)");
        due(0, made(one).told(0, 0));
        PloughDepot x = made(and(one, y -> y.gauge(1, false), y -> y.row(0, 2), y -> y.reading(0, 0, 80000), y -> y.reading(0, 1, 8)));
        due(1, x.snow(0));
        due(100000, x.told(0, 0));
        due(1, x.snow(1));
        due(100000, x.told(0, 0));
        due(100000, x.melt(100000, 1));
        due(0, x.told(0, 0));
        due(1, x.melt(1, 1));
        due(0, x.told(0, 0));

        says("Terms 1", "is GUESSED or is not (it is not at first)");
        due(0, made(one).told(0, 1));

        says("Terms 1", "has CLEARED, how many of its SIDES are cleared (0 at first)");
        due(0, made(one).told(0, 2));
        dueStreet(made(one), 0, 0, 0, 0, 1, 0, 1, 9, 2, 1);
    }

    private static void mustBeCleared() {
        says("Terms 1", "It MUST be cleared, if it is OPEN and SIDES are above 0.");
        Town two = line(2, 10);
        due(2, made(two).round());
        due(0, made(two).odd(0));
        due(2, made(and(two, x -> x.sides(0, 2))).round());
        due(0, made(and(two, x -> x.sides(0, 0))).round());
        due(NONE, made(and(two, x -> x.sides(0, 0))).odd(0));
        due(0, made(and(two, x -> x.shut(0, true))).round());
        due(NONE, made(and(two, x -> x.shut(0, true))).odd(0));
        due(2, made(and(two, x -> x.shut(0, true), x -> x.shut(0, false))).round());
    }

    private static void theWay() {
        Town two = and(crossings(3), x -> x.street(0, 1, 4, false), x -> x.street(1, 2, 4, true), x -> x.street(0, 2, 9, false));
        says("Terms 1", "STREETS that are OPEN");
        due(8, made(two).way(0, 2));
        due(9, made(and(two, x -> x.shut(0, true))).way(0, 2));
        due(9, made(and(two, x -> x.shut(1, true))).way(0, 2));
        due(NO, made(and(two, x -> x.shut(1, true), x -> x.shut(2, true))).way(0, 2));
        due(8, made(and(two, x -> x.shut(1, true), x -> x.shut(2, true), x -> x.shut(1, false))).way(0, 2));

        says("Terms 1", "each driven as it may be");
        due(9, made(two).way(2, 0));
        due(2, made(two).wayAt(2, 0, 0));
        due(13, made(two).way(2, 1));
        due(NO, made(and(two, x -> x.oneWay(2, true))).way(2, 0));
        due(8, made(and(two, x -> x.oneWay(1, false))).way(2, 0));

        says("Terms 1", "of least LENGTH together");
        due(7, made(and(two, x -> x.street(0, 2, 7, false))).way(0, 2));
        due(3, made(and(two, x -> x.street(0, 2, 7, false))).wayAt(0, 2, 0));
        // as long: then 1 is the least next CROSSING
        due(0, made(and(two, x -> x.street(0, 2, 8, false))).wayAt(0, 2, 0));

        says("Terms 1", "From a CROSSING to itself it has no STREETS.");
        due(0, made(two).way(2, 2));
        due(NONE, made(two).wayAt(2, 2, 0));
        due(0, made(crossings(1)).way(0, 0));
        due(0, made(and(two, x -> x.shut(0, true))).way(1, 1));
    }

    private static void theWayOfSeveral() {
        // 0 to 4 by 1, by 2 and by 3, all of 10
        Town town = and(crossings(5), x -> x.street(0, 3, 5, false), x -> x.street(3, 4, 5, false), x -> x.street(0, 2, 5, false),
            x -> x.street(2, 4, 5, false), x -> x.street(0, 1, 5, false), x -> x.street(1, 4, 5, false));
        says("Terms 1", "from the first CROSSING on always to the least next CROSSING");
        due(4, made(town).wayAt(0, 4, 0));
        due(5, made(town).wayAt(0, 4, 1));
        due(NONE, made(town).wayAt(0, 4, 2));
        due(5, made(town).wayAt(4, 0, 0));
        due(2, made(and(town, x -> x.shut(4, true))).wayAt(0, 4, 0));
        // from the first CROSSING on: the two ends may choose other WAYS
        Town two = and(crossings(7), x -> x.street(1, 3, 2, false), x -> x.street(3, 6, 2, false), x -> x.street(6, 2, 2, false),
            x -> x.street(1, 4, 2, false), x -> x.street(4, 5, 2, false), x -> x.street(5, 2, 2, false));
        for (int i = 0; i < 3; i++) {
            due(i, made(two).wayAt(1, 2, i));
            due(5 - i, made(two).wayAt(2, 1, i));
        }

        says("Terms 1", "and by the least STREET to it");
        PloughDepot x = made(and(town, y -> y.street(1, 0, 5, false), y -> y.street(4, 1, 5, false)));
        due(4, x.wayAt(0, 4, 0));
        due(5, x.wayAt(0, 4, 1));
        due(4, x.wayAt(4, 0, 1));
        x.shut(4, true);
        x.shut(5, true);
        due(6, x.wayAt(0, 4, 0));
        due(7, x.wayAt(0, 4, 1));

        says("Terms 1", "with which that least LENGTH can be kept");
        // the least CROSSING next to 0 and the least STREET there are on no WAY of 10
        x = made(and(crossings(5), y -> y.street(0, 1, 1, false), y -> y.street(1, 4, 10, false), y -> y.street(0, 2, 6, false),
            y -> y.street(0, 2, 5, false), y -> y.street(2, 4, 5, false)));
        due(10, x.way(0, 4));
        due(3, x.wayAt(0, 4, 0));
        due(4, x.wayAt(0, 4, 1));
    }

    private static void theLongestWays() {
        says("Terms 1", "STREETS that are OPEN, one behind the other");
        PloughDepot x = made(line(60, 10000));
        due(590000, x.way(0, 59));
        due(590000, x.way(59, 0));
        due(0, x.wayAt(0, 59, 0));
        due(58, x.wayAt(0, 59, 58));
        due(NONE, x.wayAt(0, 59, 59));
        due(58, x.wayAt(59, 0, 0));
        due(0, x.wayAt(59, 0, 58));
        x.shut(30, true);
        due(NO, x.way(0, 59));
        due(300000, x.way(0, 30));
    }

    // ---- the promises

    private static void newObject() {
        says("Promise 1", "Nothing is there.");
        PloughDepot x = new PloughDepot();
        due(0, x.status());
        due(0, x.trace());
        due(0, x.looks());
        due(NONE, x.sign(0));
        dueFindings(x, 0, 0, 0, 0, 0);
        for (int what = 0; what < 4; what++) {
            due(0, x.count(what));
        }
        for (int what = 0; what < 7; what++) {
            due(0, x.length(what));
        }
        noChange(EMPTY, 0, PloughDepot::undo);
        noChange(EMPTY, 31 * 7, PloughDepot::digest);
        noChange(EMPTY, 0, PloughDepot::text);
        noChange(EMPTY, NONE, y -> y.odd(0));
        noChange(EMPTY, 0, y -> y.least(0));
        noChange(EMPTY, NONE, y -> y.at(0, 0));
        noChange(EMPTY, 0, y -> y.copies(0, 0, 0));
        change(EMPTY, 0, y -> y.snow(0));
        change(EMPTY, 1, y -> y.melt(8, 8));
        change(EMPTY, 0, PloughDepot::round);
        change(EMPTY, 1, PloughDepot::split);
        change(EMPTY, 0, y -> y.plough(0, 0));
    }

    private static void newObjectRefuses() {
        says("Promise 1", "Nothing is there.");
        Call[] calls = {x -> x.street(0, 1, 1, false), x -> x.oneWay(0, true), x -> x.shut(0, true), x -> x.sides(0, 1),
            x -> x.told(0, 0), x -> x.way(0, 0), x -> x.wayAt(0, 0, 0), x -> x.gauge(0, true), x -> x.row(0, 1), x -> x.row(0, -1),
            x -> x.lose(0), x -> x.reading(0, 0, 0), x -> x.none(0, 0, 0), x -> x.read(0, 0), x -> x.copy(0, 0, 0, 0, 0),
            x -> x.pair(0, 1, 0), x -> x.out(0), x -> x.asks(0, 0, 0), x -> x.salt(0, 0), x -> x.least(1), x -> x.partner(0),
            x -> x.part(0, 0), x -> x.go(0, 1)};
        for (Call call : calls) {
            refused(EMPTY, BAD, call);
        }
    }

    private static void crossingsCall() {
        says("Promise 2", "n more CROSSINGS (1 .. 20)");
        onlyFrom(EMPTY, 1, 20, PloughDepot::crossings);
        onlyFrom(BUSY, 1, 20, PloughDepot::crossings);

        says("Promise 2", "how many there are. A CHANGE.");
        change(EMPTY, 1, x -> x.crossings(1));
        change(EMPTY, 20, x -> x.crossings(20));
        change(BUSY, 10, x -> x.crossings(3));

        says("Promise 2", "BAD; FULL.");
        refused(crossings(60), BAD, x -> x.crossings(0));
        refused(crossings(60), BAD, x -> x.crossings(21));
        refused(crossings(60), FULL, x -> x.crossings(1));
    }

    private static void streetCall() {
        says("Promise 3", "A STREET: its number. A CHANGE.");
        change(crossings(2), 0, x -> x.street(0, 1, 5, false));
        change(BUSY, 5, x -> x.street(6, 0, 5, true));
        dueStreet(made(and(BUSY, x -> x.street(6, 0, 5, true))), 5, 0, 0, 0, 1, 0, 1, 5, 6, 0);
        // side by side, and the other way about
        change(line(2, 5), 1, x -> x.street(0, 1, 5, false));
        change(line(2, 5), 1, x -> x.street(1, 0, 5, false));

        says("Promise 3", "BAD; FULL.");
        onlyFrom(BUSY, 1, 6, (x, n) -> x.street(0, n, 5, false));
        onlyFrom(BUSY, 1, 6, (x, n) -> x.street(n, 0, 5, false));
        refused(crossings(1), BAD, x -> x.street(0, 1, 5, false));
        refused(FULL_OF_STREETS, BAD, x -> x.street(0, 0, 5, false));
        refused(FULL_OF_STREETS, BAD, x -> x.street(0, 2, 5, false));
        refused(FULL_OF_STREETS, BAD, x -> x.street(0, 1, 10001, false));
        refused(FULL_OF_STREETS, FULL, x -> x.street(0, 1, 10000, false));
    }

    private static void oneWayCall() {
        says("Promise 4", "A STREET is ONE WAY, or BOTH WAYS, from now on: what it was (1, 0). A CHANGE.");
        change(BUSY, 0, x -> x.oneWay(0, true));
        change(BUSY, 0, x -> x.oneWay(0, false));
        change(BUSY, 1, x -> x.oneWay(4, false));
        change(BUSY, 1, x -> x.oneWay(4, true));
        PloughDepot x = made(BUSY);
        x.oneWay(3, true);
        dueStreet(x, 3, 166, 0, 0, 2, 0, 1, 60, 2, 3);
        due(NO, x.way(3, 2));
        x.oneWay(3, false);
        dueStreet(x, 3, 166, 0, 0, 2, 0, 0, 60, 2, 3);
        due(60, x.way(3, 2));

        says("Promise 4", "BAD.");
        onlyFrom(BUSY, 0, 4, (y, n) -> y.oneWay(n, true));
    }

    private static void shutCall() {
        says("Promise 5", "A STREET is SHUT, or OPEN, from now on: what it was (1, 0). A CHANGE.");
        change(BUSY, 0, x -> x.shut(0, true));
        change(BUSY, 0, x -> x.shut(0, false));
        change(BUSY, 1, x -> x.shut(4, false));
        change(BUSY, 1, x -> x.shut(4, true));
        PloughDepot x = made(BUSY);
        x.shut(3, true);
        dueStreet(x, 3, 166, 0, 0, 2, 1, 0, 60, 2, 3);
        due(NO, x.way(2, 3));
        x.shut(3, false);
        dueStreet(x, 3, 166, 0, 0, 2, 0, 0, 60, 2, 3);
        due(60, x.way(2, 3));

        says("Promise 5", "BAD.");
        onlyFrom(BUSY, 0, 4, (y, n) -> y.shut(n, true));
    }

    private static void sidesCall() {
        says("Promise 6", "SIDES of a STREET are n from now on, CLEARED is 0: how many they were. A CHANGE.");
        change(BUSY, 1, x -> x.sides(0, 2));
        change(BUSY, 1, x -> x.sides(0, 1));
        change(BUSY, 2, x -> x.sides(3, 0));
        change(and(BUSY, x -> x.sides(3, 0), x -> x.crossings(1)), 0, x -> x.sides(3, 1));
        // CLEARED of STREET 0 is 1, and becomes 0 with as many SIDES as with others; other STREETS and its DRIFT stay
        for (int n = 0; n <= 2; n++) {
            PloughDepot x = made(and(BUSY, y -> y.go(0, 2)));
            due(1, x.told(0, 2));
            due(1, x.told(1, 2));
            due(1, x.sides(0, n));
            dueStreet(x, 0, 0, 0, 0, n, 0, 0, 100, 0, 1);
            due(1, x.told(1, 2));
        }
        PloughDepot x = made(BUSY);
        x.sides(1, 2);
        due(166, x.told(1, 0));

        says("Promise 6", "BAD.");
        onlyFrom(BUSY, 0, 4, (y, n) -> y.sides(n, 1));
        onlyFrom(BUSY, 0, 2, (y, n) -> y.sides(0, n));
        refused(BUSY, BAD, y -> y.sides(5, 3));
    }

    private static void toldCall() {
        says("Promise 7", "0 DRIFT, 1 whether it is GUESSED, 2 CLEARED, 3 SIDES, 4 whether it is SHUT, 5 whether it is ONE WAY, "
            + "6 LENGTH, 7 a, 8 b.");
        PloughDepot x = made(and(BUSY, y -> y.shut(3, true), y -> y.lose(0), y -> y.reading(1, 3, 1), y -> y.snow(3), y -> y.shut(3, false)));
        dueStreet(x, 0, 1, 0, 1, 1, 0, 0, 100, 0, 1);
        dueStreet(x, 3, 167, 0, 0, 2, 0, 0, 60, 2, 3);
        dueStreet(x, 4, 150, 1, 0, 1, 1, 1, 70, 3, 4);
        noChange(BUSY, 150, y -> y.told(4, 0));

        says("Promise 7", "BAD.");
        onlyFrom(BUSY, 0, 8, (y, n) -> y.told(0, n));
        onlyFrom(BUSY, 0, 4, (y, n) -> y.told(n, 0));
        refused(BUSY, BAD, y -> y.told(5, 9));
    }

    private static void wayCall() {
        says("Promise 8", "LENGTH of THE WAY from a to b.");
        noChange(BUSY, 180, x -> x.way(0, 3));
        noChange(BUSY, 0, x -> x.way(6, 6));

        says("Promise 8", "BAD; NO.");
        onlyFrom(crossings(1), 0, 0, (x, n) -> x.way(0, n));
        onlyFrom(and(line(7, 5), x -> x.crossings(1), PloughDepot::undo), 0, 6, (x, n) -> x.way(0, n));
        onlyFrom(line(7, 5), 0, 6, (x, n) -> x.way(n, 0));
        refused(BUSY, NO, x -> x.way(0, 4));
        refused(BUSY, NO, x -> x.way(5, 0));
        refused(BUSY, BAD, x -> x.way(5, 7));
        refused(BUSY, BAD, x -> x.way(7, 7));
    }

    private static void wayAtCall() {
        says("Promise 9", "The i-th STREET (from 0 on) of THE WAY from a to b; NONE: none such.");
        int[] want = {NONE, 2, 3, NONE, NONE};
        for (int i = -1; i < 4; i++) {
            int at = i;
            noChange(BUSY, want[i + 1], x -> x.wayAt(0, 3, at));
        }
        noChange(BUSY, NONE, x -> x.wayAt(0, 3, MAX));
        noChange(BUSY, NONE, x -> x.wayAt(0, 3, MIN));
        noChange(BUSY, NONE, x -> x.wayAt(5, 5, 0));

        says("Promise 9", "BAD; NO.");
        onlyFrom(line(7, 5), 0, 6, (x, n) -> x.wayAt(0, n, 0));
        onlyFrom(line(7, 5), 0, 6, (x, n) -> x.wayAt(n, 0, 0));
        refused(BUSY, NO, x -> x.wayAt(0, 4, 0));
        refused(BUSY, NO, x -> x.wayAt(0, 4, -1));
        refused(BUSY, BAD, x -> x.wayAt(0, 7, -1));
    }
}
