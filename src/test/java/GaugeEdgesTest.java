/** The edges of GAUGES: the terms of 2, and promises 10 to 19, sentence by sentence. */
public final class GaugeEdgesTest extends Edges {
    /** GAUGE 0 of FLOATS and GAUGE 1 of SHORTS, both at THE DEPOT with 200 HOURS. */
    private static final Town BOTH = and(line(2, 10), x -> x.gauge(0, false), x -> x.gauge(0, true), x -> x.row(0, 200), x -> x.row(1, 200));
    private static final Town FULL_OF_GAUGES = and(crossings(2), x -> {
        for (int g = 0; g < 20; g++) {
            x.gauge(g % 2, g > 9);
        }
        return 0;
    });
    /** GAUGES 0, 1 of FLOATS with 5 and 3 HOURS, 2 of SHORTS with 4, 3 of FLOATS and 4 of SHORTS, which are MISSING. */
    private static final Town ROWS = and(line(3, 10), x -> x.gauge(0, false), x -> x.gauge(1, false), x -> x.gauge(2, true),
        x -> x.gauge(0, false), x -> x.gauge(0, true), x -> x.row(0, 5), x -> x.row(1, 3), x -> x.row(2, 4), x -> {
            for (int h = 0; h < 5; h++) {
                x.reading(0, h, 8 * (h + 1));
            }
            for (int h = 0; h < 3; h++) {
                x.reading(1, h, 80 * (h + 1));
            }
            for (int h = 0; h < 4; h++) {
                x.reading(2, h, 1 + h);
            }
            return x.crossings(1);
        });

    public static void main(String[] args) {
        howManyGauges();
        howManyHours();
        noneAndEndless();
        gaugesThatTellNothing();
        whatIsTold();
        nearness();
        sumsAreFloats();
        drifts();
        gaugeCall();
        rowCall();
        loseCall();
        readingCall();
        noneCall();
        readCall();
        copyCall();
        copyRefusals();
        copiesCall();
        snowCall();
        meltCall();
        meltRefusals();
        end();
    }

    private static Town gaugeAt(int crossing, boolean shorts, int v) {
        return x -> {
            int gauge = x.gauge(crossing, shorts);
            x.row(gauge, 1);
            x.reading(gauge, 0, v);
        };
    }

    private static Town with(Town town, Town... more) {
        return x -> {
            town.build(x);
            for (Town one : more) {
                one.build(x);
            }
        };
    }

    // ---- the terms

    private static void howManyGauges() {
        says("Terms 2", "GAUGES 0, 1, .. (20)");
        change(and(FULL_OF_GAUGES, PloughDepot::undo), 19, x -> x.gauge(0, false));
        refused(FULL_OF_GAUGES, FULL, x -> x.gauge(0, false));
        PloughDepot x = made(FULL_OF_GAUGES);
        due(20, x.count(2));
        due(1, x.row(19, 1));
        due(BAD, x.row(20, 1));

        says("Terms 2", "stand at CROSSINGS");
        onlyFrom(crossings(3), 0, 2, (y, n) -> y.gauge(n, false));

        says("Terms 2", "are of FLOATS (centimetres) or SHORTS (tenths)");
        x = made(and(BOTH, y -> y.reading(0, 0, 80), y -> y.reading(1, 0, 80)));
        due(100, x.read(0, 0));
        due(80, x.read(1, 0));
    }

    private static void howManyHours() {
        says("Terms 2", "a ROW of readings for HOURS 0, 1, .. (200 at most)");
        for (int g = 0; g < 2; g++) {
            int gauge = g;
            due(1, made(BOTH).reading(gauge, 0, 9));
            due(1, made(BOTH).reading(gauge, 199, 9));
            refused(BOTH, INDEX, x -> x.reading(gauge, 200, 9));
            refused(BOTH, INDEX, x -> x.reading(gauge, -1, 9));
        }
        // the last HOUR of one GAUGE is not the first one of the next, and all rows may be there at once
        PloughDepot x = made(ALL_FULL);
        for (int g = 0; g < 20; g++) {
            x.reading(g, 0, 160 + g * 8);
            x.reading(g, 199, 8 * g);
        }
        for (int g = 0; g < 20; g++) {
            due(g % 2 == 0 ? 200 + g * 10 : 160 + g * 8, x.read(g, 0));
            due(g % 2 == 0 ? g * 10 : g * 8, x.read(g, 199));
        }

        says("Terms 2", "which may be MISSING");
        refused(BUSY, NULL, y -> y.read(2, 0));
        refused(and(BOTH, y -> y.lose(0)), NULL, y -> y.read(0, 0));
    }

    private static void noneAndEndless() {
        says("Terms 2", "NONE (of FLOATS: no number; of SHORTS: -32768)");
        PloughDepot x = made(BOTH);
        x.reading(1, 0, -32768);
        due(NONE, x.read(1, 0));
        x.reading(1, 0, -32767);
        due(0, x.read(1, 0));
        x.reading(0, 0, -32768);
        due(0, x.read(0, 0));
        x.none(0, 0, 0);
        due(NONE, x.read(0, 0));
        x.none(1, 0, 0);
        due(NONE, x.read(1, 0));

        says("Terms 2", "ENDLESS (infinite; 32767)");
        x.reading(1, 0, 32767);
        due(NONE, x.read(1, 0));
        x.reading(1, 0, 32766);
        due(32766, x.read(1, 0));
        // 32767 / 8 = 4095.875
        x.reading(0, 0, 32767);
        due(40958, x.read(0, 0));
        x.none(0, 0, 1);
        due(NONE, x.read(0, 0));
        x.none(1, 0, 1);
        due(NONE, x.read(1, 0));
    }

    private static void gaugesThatTellNothing() {
        Town told = with(line(3, 10), gaugeAt(0, true, 90));
        says("Terms 2", "MISSING: a FINDING NULL");
        PloughDepot x = made(and(told, y -> y.lose(0)));
        due(0, x.snow(0));
        due(0, x.status());
        dueFindings(x, 1, 0, 0, 0, 0);
        dueStreet(x, 0, 0, 1, 0, 1, 0, 0, 10, 0, 1);
        // one FINDING for each such GAUGE, whatever HOUR is asked for
        x = made(and(told, y -> y.gauge(1, false), y -> y.gauge(2, false)));
        due(2, x.snow(0));
        dueFindings(x, 2, 0, 0, 0, 0);
        due(0, x.snow(199));
        dueFindings(x, 4, 1, 0, 0, 0);

        says("Terms 2", "no such HOUR: a FINDING INDEX");
        x = made(told);
        due(0, x.snow(1));
        due(0, x.status());
        dueFindings(x, 0, 1, 0, 0, 0);
        dueStreet(x, 0, 0, 1, 0, 1, 0, 0, 10, 0, 1);
        due(2, x.snow(0));
        dueFindings(x, 0, 1, 0, 0, 0);
        x = made(and(told, y -> y.row(0, 0)));
        due(0, x.snow(0));
        dueFindings(x, 0, 1, 0, 0, 0);
        x = made(and(told, y -> y.row(0, 200)));
        due(2, x.snow(199));
        dueFindings(x, 0, 0, 0, 0, 0);

        says("Terms 2", "NONE and ENDLESS tell nothing, either.");
        for (int which = 0; which < 2; which++) {
            int w = which;
            x = made(and(told, y -> y.none(0, 0, w)));
            due(0, x.snow(0));
            dueFindings(x, 0, 0, 0, 0, 0);
            dueStreet(x, 0, 0, 1, 0, 1, 0, 0, 10, 0, 1);
            // beside one that tells, it counts for nothing
            x = made(and(with(told, gaugeAt(0, false, 16)), y -> y.none(1, 0, w)));
            due(2, x.snow(0));
            due(90, x.told(0, 0));
            x = made(and(with(told, gaugeAt(0, false, 16)), y -> y.none(0, 0, w)));
            due(2, x.snow(0));
            due(20, x.told(0, 0));
        }
    }

    private static void whatIsTold() {
        says("Terms 2", "of FLOATS the reading, of SHORTS it / 10 (as floats)");
        PloughDepot x = made(with(line(2, 10), gaugeAt(0, false, 20)));
        due(1, x.snow(0));
        due(25, x.told(0, 0));
        x = made(with(line(2, 10), gaugeAt(0, true, 27)));
        due(1, x.snow(0));
        due(27, x.told(0, 0));

        says("Terms 2", "0, if that is below 0.");
        // it tells 0: that is no guess, and half of what another one tells
        for (int v : new int[] {-1, 0, -32767}) {
            x = made(with(line(2, 10), gaugeAt(0, true, v)));
            due(1, x.snow(0));
            dueStreet(x, 0, 0, 0, 0, 1, 0, 0, 10, 0, 1);
            x = made(with(line(2, 10), gaugeAt(0, true, v), gaugeAt(0, true, 60)));
            due(1, x.snow(0));
            due(30, x.told(0, 0));
        }
        for (int v : new int[] {-1, 0, MIN}) {
            x = made(with(line(2, 10), gaugeAt(0, false, v)));
            due(1, x.snow(0));
            dueStreet(x, 0, 0, 0, 0, 1, 0, 0, 10, 0, 1);
        }
    }

    private static void nearness() {
        says("Terms 2", "k is 2, if it stands at a or b");
        // STREET 0 from 1 to 2 alone: 3 times as much at one end tells of k, where another one with k 1 stands at 3
        Town town = and(crossings(5), x -> x.street(1, 2, 10, false), x -> x.street(2, 3, 10, false));
        for (int end = 1; end <= 2; end++) {
            PloughDepot x = made(with(town, gaugeAt(end, true, 300), gaugeAt(3, true, 0)));
            due(2, x.snow(0));
            due(200, x.told(0, 0));
        }
        // it stands at a, though a STREET joins it to b as well: 2, not 1 and not 3
        PloughDepot x = made(with(town, gaugeAt(1, true, 300), gaugeAt(2, true, 0)));
        x.street(1, 2, 10, false);
        due(3, x.snow(0));
        due(150, x.told(0, 0));

        says("Terms 2", "else 1, if an OPEN STREET joins its CROSSING and a or b (whatever its way)");
        // at 0, joined to 1 (a) or to 2 (b), in either direction
        for (int end = 1; end <= 2; end++) {
            for (int turn = 0; turn < 4; turn++) {
                int a = turn % 2 == 0 ? 0 : end;
                int b = turn % 2 == 0 ? end : 0;
                boolean oneWay = turn > 1;
                Town joined = and(crossings(4), y -> y.street(1, 2, 10, false), y -> y.street(a, b, 10, oneWay));
                x = made(with(joined, gaugeAt(0, true, 300), gaugeAt(3 - end, true, 0)));
                x.snow(0);
                due(100, x.told(0, 0));
                // SHUT, it joins nothing; but it is a STREET that snow falls on
                x = made(with(joined, gaugeAt(0, true, 300)));
                x.shut(1, true);
                due(1, x.snow(0));
                dueStreet(x, 0, 0, 1, 0, 1, 0, 0, 10, 1, 2);
                due(300, x.told(1, 0));
            }
        }

        says("Terms 2", "others are not NEAR");
        // 0 - 1 - 2 - 3: from 0 STREET 2 is two STREETS away
        x = made(with(line(4, 10), gaugeAt(0, true, 300)));
        due(2, x.snow(0));
        dueStreet(x, 1, 300, 0, 0, 1, 0, 0, 10, 1, 2);
        dueStreet(x, 2, 0, 1, 0, 1, 0, 0, 10, 2, 3);
        x = made(with(crossings(5), y -> y.street(1, 2, 10, false), gaugeAt(4, true, 300)));
        due(0, x.snow(0));
        due(1, x.told(0, 1));
        // the STREET that is SHUT itself: 2 at its ends, and 1 where an OPEN one joins
        x = made(with(and(line(3, 10), y -> y.shut(0, true)), gaugeAt(0, true, 300), gaugeAt(2, true, 0)));
        due(2, x.snow(0));
        due(200, x.told(0, 0));
        due(0, x.told(1, 0));
    }

    private static void sumsAreFloats() {
        says("Terms 2", "s and w, floats, 0 at first; for each GAUGE that told x, by number, that is NEAR: s becomes s + x * k, w becomes w + k");
        // 0.1, 0.1, 0.7 in this order are a little less than 0.9 together, and the other way about they are not
        PloughDepot x = made(with(line(2, 10), gaugeAt(0, true, 1), gaugeAt(0, true, 1), gaugeAt(0, true, 7)));
        due(1, x.snow(0));
        due(2, x.told(0, 0));
        x = made(with(line(2, 10), gaugeAt(0, true, 7), gaugeAt(0, true, 1), gaugeAt(0, true, 1)));
        due(1, x.snow(0));
        due(3, x.told(0, 0));
        // with k 2 and 1: (0.2 + 0.7) / 3, times 10 then
        x = made(with(line(3, 10), gaugeAt(0, true, 1), gaugeAt(2, true, 7)));
        due(2, x.snow(0));
        due(2, x.told(0, 0));
        // a new sum for each STREET
        x = made(with(star(3, 10), gaugeAt(1, true, 100)));
        due(3, x.snow(0));
        for (int s = 0; s < 3; s++) {
            due(100, x.told(s, 0));
        }
    }

    private static void drifts() {
        says("Terms 2", "DRIFT becomes (s / w) * 10 more (floats; as an int, 100000 at most), 100000 at most");
        // by 79999 it is 99998; 8 more are 10 tenths, 1 is 1.25 of them
        PloughDepot x = made(and(BOTH, y -> y.reading(0, 0, 79999), y -> y.reading(0, 1, 1), y -> y.reading(0, 2, 80000),
            y -> y.reading(0, 3, 80001), y -> y.reading(0, 4, MAX), y -> y.lose(1)));
        int[][] hoursAndDrifts = {{0, 99998}, {1, 99999}, {1, 100000}, {1, 100000}};
        for (int[] one : hoursAndDrifts) {
            due(1, x.snow(one[0]));
            due(one[1], x.told(0, 0));
        }
        for (int hour = 2; hour <= 4; hour++) {
            int h = hour;
            PloughDepot z = made(and(BOTH, y -> y.lose(1), y -> y.reading(0, h, h == 2 ? 80000 : h == 3 ? 80001 : MAX)));
            due(1, z.snow(h));
            due(100000, z.told(0, 0));
            due(1, z.snow(h));
            due(100000, z.told(0, 0));
        }

        says("Terms 2", "and it is not GUESSED; else DRIFT stays, and it is GUESSED.");
        x = made(with(line(2, 10), gaugeAt(0, true, 40)));
        due(1, x.snow(0));
        due(40, x.told(0, 0));
        due(0, x.told(0, 1));
        due(0, x.snow(1));
        due(40, x.told(0, 0));
        due(1, x.told(0, 1));
        due(1, x.snow(0));
        due(80, x.told(0, 0));
        due(0, x.told(0, 1));
    }

    // ---- the promises

    private static void gaugeCall() {
        says("Promise 10", "A GAUGE at a CROSSING, of FLOATS or SHORTS, its ROW MISSING: its number. A CHANGE.");
        change(crossings(1), 0, x -> x.gauge(0, false));
        change(BUSY, 4, x -> x.gauge(6, true));
        PloughDepot x = made(and(BUSY, y -> y.gauge(0, true)));
        due(NULL, x.read(4, 0));
        due(NULL, x.reading(4, 0, 5));
        // behind one that was undone it is MISSING, too
        x = made(and(BUSY, y -> y.gauge(0, true), y -> y.row(4, 3), PloughDepot::undo, y -> y.gauge(0, false)));
        due(NULL, x.read(4, 0));
        due(NULL, x.read(5, 0));

        says("Promise 10", "BAD; FULL.");
        onlyFrom(BUSY, 0, 6, (y, n) -> y.gauge(n, true));
        refused(FULL_OF_GAUGES, BAD, y -> y.gauge(2, true));
        refused(FULL_OF_GAUGES, BAD, y -> y.gauge(-1, true));
        refused(FULL_OF_GAUGES, FULL, y -> y.gauge(1, true));
    }

    private static void rowCall() {
        says("Promise 11", "A GAUGE has a ROW of n readings, all 0: 1. A CHANGE.");
        for (int gauge = 0; gauge < 4; gauge++) {
            int g = gauge;
            change(BUSY, 1, x -> x.row(g, 0));
            change(BUSY, 1, x -> x.row(g, 1));
            change(BUSY, 1, x -> x.row(g, 200));
        }
        PloughDepot x = made(BUSY);
        due(1, x.row(0, 3));
        for (int h = 0; h < 3; h++) {
            due(0, x.read(0, h));
        }
        due(INDEX, x.read(0, 3));
        due(1, x.row(1, 4));
        for (int h = 0; h < 4; h++) {
            due(0, x.read(1, h));
        }
        due(1, x.row(2, 0));
        due(INDEX, x.read(2, 0));

        says("Promise 11", "BAD: also n above 200; SIZE.");
        onlyFrom(BUSY, 0, 3, (y, n) -> y.row(n, 1));
        for (int n : new int[] {201, MAX}) {
            refused(BUSY, BAD, y -> y.row(0, n));
        }
        for (int n : new int[] {-1, MIN}) {
            refused(BUSY, SIZE, y -> y.row(0, n));
            refused(BUSY, SIZE, y -> y.row(2, n));
            refused(BUSY, BAD, y -> y.row(4, n));
        }
    }

    private static void loseCall() {
        says("Promise 12", "The ROW of a GAUGE is MISSING from now on: 1; 0: it was. A CHANGE.");
        change(BUSY, 1, x -> x.lose(0));
        change(BUSY, 1, x -> x.lose(1));
        change(BUSY, 0, x -> x.lose(2));
        change(BUSY, 1, x -> x.lose(3));
        refused(and(BUSY, x -> x.lose(0)), NULL, x -> x.read(0, 0));
        PloughDepot x = made(and(BUSY, y -> y.lose(0), y -> y.row(0, 4)));
        due(0, x.read(0, 0));

        says("Promise 12", "BAD.");
        onlyFrom(BUSY, 0, 3, PloughDepot::lose);
    }

    private static void readingCall() {
        says("Promise 13", "A reading: of FLOATS v as a float, divided by 8, of SHORTS the lowest 16 bits of v: 1. A CHANGE.");
        change(BUSY, 1, x -> x.reading(0, 0, 5));
        change(BUSY, 1, x -> x.reading(0, 0, 160));
        change(BUSY, 1, x -> x.reading(1, 3, 5));
        int[][] floats = {{0, 0}, {1, 1}, {7, 8}, {8, 10}, {-1, 0}, {16777216, 100000}, {MAX, 100000}, {MIN, 0}};
        int[][] shorts = {{65536, 0}, {65535, 0}, {32766, 32766}, {32767, NONE}, {32768, NONE}, {32769, 0}, {-32768, NONE},
            {-32769, NONE}, {-32770, 32766}, {65536 + 32766, 32766}, {MAX, 0}, {MIN, 0}, {MIN + 7, 7}};
        PloughDepot x = made(BOTH);
        for (int[] one : floats) {
            due(1, x.reading(0, 9, one[0]));
            due(one[1], x.read(0, 9));
        }
        for (int[] one : shorts) {
            due(1, x.reading(1, 9, one[0]));
            due(one[1], x.read(1, 9));
        }
        due(0, x.read(0, 8));
        due(0, x.read(1, 10));

        says("Promise 13", "BAD; NULL; INDEX.");
        for (int g : new int[] {-1, 4, MIN, MAX}) {
            refused(BUSY, BAD, y -> y.reading(g, 0, 5));
            refused(BUSY, BAD, y -> y.reading(g, -1, 5));
        }
        for (int h : new int[] {-1, 4, 200, MIN, MAX}) {
            refused(BUSY, INDEX, y -> y.reading(0, h, 5));
            refused(BUSY, INDEX, y -> y.reading(1, h, 5));
            refused(BUSY, NULL, y -> y.reading(2, h, 5));
        }
        refused(BUSY, INDEX, y -> y.reading(3, 0, 5));
    }

    private static void noneCall() {
        says("Promise 14", "A reading is NONE (0), ENDLESS (1): 1. A CHANGE.");
        for (int which = 0; which < 2; which++) {
            int w = which;
            for (int gauge = 0; gauge < 2; gauge++) {
                int g = gauge;
                change(BUSY, 1, x -> x.none(g, 0, w));
                change(BUSY, 1, x -> x.none(g, 3, w));
                PloughDepot x = made(and(BUSY, y -> y.none(g, 3, w)));
                due(NONE, x.read(g, 3));
                due(0, x.read(g, 2));
                due(1, x.reading(g, 3, 8));
                due(g == 0 ? 10 : 8, x.read(g, 3));
            }
        }
        change(BUSY, 1, x -> x.none(1, 1, 0));

        says("Promise 14", "BAD; NULL; INDEX.");
        onlyFrom(BUSY, 0, 1, (x, n) -> x.none(0, 0, n));
        for (int g : new int[] {-1, 4, MIN, MAX}) {
            refused(BUSY, BAD, x -> x.none(g, 0, 0));
            refused(BUSY, BAD, x -> x.none(g, -1, 0));
        }
        refused(BUSY, BAD, x -> x.none(2, 0, 2));
        refused(BUSY, BAD, x -> x.none(0, 4, 2));
        refused(BUSY, BAD, x -> x.none(4, 4, 0));
        for (int h : new int[] {-1, 4, 200, MIN, MAX}) {
            refused(BUSY, INDEX, x -> x.none(0, h, 0));
            refused(BUSY, INDEX, x -> x.none(1, h, 1));
            refused(BUSY, NULL, x -> x.none(2, h, 0));
        }
        refused(BUSY, INDEX, x -> x.none(3, 0, 0));
    }

    private static void readCall() {
        says("Promise 15", "x of SNOW, times 10 (floats), as an int, 100000 at most; NONE: it tells nothing.");
        noChange(BUSY, 200, x -> x.read(0, 0));
        noChange(BUSY, 150, x -> x.read(1, 0));
        noChange(BUSY, NONE, x -> x.read(1, 1));
        int[][] floats = {{79999, 99998}, {80000, 100000}, {80001, 100000}, {MAX, 100000}, {-80000, 0}, {3, 3}, {6, 7}};
        PloughDepot x = made(BOTH);
        for (int[] one : floats) {
            x.reading(0, 0, one[0]);
            due(one[1], x.read(0, 0));
        }
        for (int v = 0; v < 200; v++) {
            x = made(and(BOTH, y -> y.lose(0)));
            x.reading(1, 0, v * 163);
            due((int) ((float) (v * 163) / 10f * 10f), x.read(1, 0));
        }

        says("Promise 15", "BAD; NULL; INDEX.");
        for (int g : new int[] {-1, 4, MIN, MAX}) {
            refused(BUSY, BAD, y -> y.read(g, 0));
            refused(BUSY, BAD, y -> y.read(g, -1));
        }
        for (int h : new int[] {-1, 4, 200, MIN, MAX}) {
            refused(BUSY, INDEX, y -> y.read(0, h));
            refused(BUSY, INDEX, y -> y.read(1, h));
            refused(BUSY, NULL, y -> y.read(2, h));
        }
        refused(BUSY, INDEX, y -> y.read(3, 0));
    }

    private static void dueRow(PloughDepot x, int gauge, int... want) {
        for (int h = 0; h < want.length; h++) {
            due(want[h], x.read(gauge, h));
        }
        due(INDEX, x.read(gauge, want.length));
    }

    private static void copyCall() {
        says("Promise 16", "n readings of a GAUGE, from hour i on, come to another one (or itself), from hour j on (as they were ahead of it): "
            + "1. A CHANGE.");
        change(ROWS, 1, x -> x.copy(0, 0, 1, 0, 3));
        change(ROWS, 1, x -> x.copy(0, 0, 0, 1, 4));
        change(ROWS, 1, x -> x.copy(2, 1, 2, 0, 3));
        // all of the lesser row, to either
        PloughDepot x = made(and(ROWS, y -> y.copy(0, 2, 1, 0, 3)));
        dueRow(x, 0, 10, 20, 30, 40, 50);
        dueRow(x, 1, 30, 40, 50);
        x = made(and(ROWS, y -> y.copy(1, 0, 0, 2, 3)));
        dueRow(x, 0, 10, 20, 100, 200, 300);
        dueRow(x, 1, 100, 200, 300);
        // to itself, ahead and back, and nothing
        dueRow(made(and(ROWS, y -> y.copy(0, 0, 0, 1, 4))), 0, 10, 10, 20, 30, 40);
        dueRow(made(and(ROWS, y -> y.copy(0, 1, 0, 0, 4))), 0, 20, 30, 40, 50, 50);
        dueRow(made(and(ROWS, y -> y.copy(0, 0, 0, 0, 5))), 0, 10, 20, 30, 40, 50);
        dueRow(made(and(ROWS, y -> y.copy(2, 0, 2, 2, 2))), 2, 1, 2, 1, 2);
        // 0 readings are copied even from behind the last HOUR
        change(ROWS, 1, y -> y.copy(0, 0, 1, 0, 0));
        change(ROWS, 1, y -> y.copy(0, 5, 1, 3, 0));
        // NONE and ENDLESS come along
        x = made(and(ROWS, y -> y.none(0, 0, 0), y -> y.none(0, 1, 1), y -> y.copy(0, 0, 1, 1, 2)));
        dueRow(x, 1, 100, NONE, NONE);
        x = made(ALL_FULL);
        x.reading(0, 0, 8);
        x.reading(0, 199, 16);
        due(1, x.copy(0, 0, 18, 0, 200));
        due(10, x.read(18, 0));
        due(20, x.read(18, 199));
    }

    private static void copyRefusals() {
        says("Promise 16", "BAD: no such GAUGES, one of FLOATS and one of SHORTS; NULL: one is MISSING; "
            + "INDEX: i, j, n are below 0, or one ROW is not so long.");
        for (int g : new int[] {-1, 5, MIN, MAX}) {
            refused(ROWS, BAD, x -> x.copy(g, 0, 0, 0, 1));
            refused(ROWS, BAD, x -> x.copy(0, 0, g, 0, 1));
            refused(ROWS, BAD, x -> x.copy(g, 0, g, 0, 1));
        }
        refused(ROWS, BAD, x -> x.copy(0, 0, 2, 0, 1));
        refused(ROWS, BAD, x -> x.copy(2, 0, 0, 0, 1));
        refused(ROWS, BAD, x -> x.copy(0, -1, 2, 0, 1));
        // BAD ahead of NULL, NULL ahead of INDEX
        refused(ROWS, BAD, x -> x.copy(3, 0, 4, 0, 1));
        refused(ROWS, BAD, x -> x.copy(0, 0, 4, 0, 1));
        refused(ROWS, BAD, x -> x.copy(3, 0, 2, 0, 1));
        refused(ROWS, NULL, x -> x.copy(0, 0, 3, 0, 1));
        refused(ROWS, NULL, x -> x.copy(3, 0, 0, 0, 1));
        refused(ROWS, NULL, x -> x.copy(3, 0, 3, 0, 0));
        refused(ROWS, NULL, x -> x.copy(0, -1, 3, 0, 1));
        refused(ROWS, NULL, x -> x.copy(3, 0, 0, 0, -1));
        int[][] outside = {{-1, 0, 1}, {0, -1, 1}, {0, 0, -1}, {MIN, 0, 1}, {0, MIN, 1}, {0, 0, MIN}, {3, 0, 3}, {0, 1, 3}, {0, 0, 4},
            {6, 0, 0}, {0, 4, 0}, {5, 0, 1}, {0, 3, 1}, {MAX, 0, 1}, {0, MAX, 1}, {0, 0, MAX}, {1, 1, MAX}, {MAX, MAX, MAX}, {MAX, 0, 0},
            {-1, -1, 2}, {MIN, MIN, MAX}, {-1, 0, 0}, {0, -1, 0}};
        for (int[] ijn : outside) {
            refused(ROWS, INDEX, x -> x.copy(0, ijn[0], 1, ijn[1], ijn[2]));
        }
        refused(ROWS, INDEX, x -> x.copy(0, 0, 0, 1, 5));
        refused(ROWS, INDEX, x -> x.copy(0, 1, 0, 0, 5));
    }

    private static void copiesCall() {
        says("Promise 17", "Each GAUGE, by number, has n readings copied within its ROW, from hour i to hour j on");
        PloughDepot x = made(and(ROWS, y -> y.row(3, 3), y -> y.row(4, 3), y -> y.reading(4, 0, 9)));
        due(5, x.copies(0, 1, 2));
        due(0, x.status());
        dueFindings(x, 0, 0, 0, 0, 0);
        dueRow(x, 0, 10, 10, 20, 40, 50);
        dueRow(x, 1, 100, 100, 200);
        dueRow(x, 2, 1, 1, 2, 4);
        dueRow(x, 4, 9, 9, 0);
        noChange(and(crossings(1), y -> y.crossings(1)), 0, y -> y.copies(0, 0, 0));
        noChange(and(crossings(1), y -> y.crossings(1)), 0, y -> y.copies(-1, -1, -1));

        says("Promise 17", "up to the first that is refused (a FINDING; STATUS tells why): how many were copied.");
        // GAUGE 3 is MISSING; GAUGE 4 behind it is not come to: one FINDING
        x = made(ROWS);
        due(3, x.copies(0, 1, 2));
        due(NULL, x.status());
        dueFindings(x, 1, 0, 0, 0, 0);
        dueRow(x, 2, 1, 1, 2, 4);
        // GAUGE 1 is too short: GAUGE 2 behind it stays
        x = made(ROWS);
        due(1, x.copies(0, 2, 2));
        due(INDEX, x.status());
        dueFindings(x, 0, 1, 0, 0, 0);
        dueRow(x, 0, 10, 20, 10, 20, 50);
        dueRow(x, 1, 100, 200, 300);
        dueRow(x, 2, 1, 2, 3, 4);

        says("Promise 17", "A CHANGE, if one or more.");
        PloughDepot y = made(and(ROWS, z -> z.copies(0, 2, 2)));
        due(1, y.undo());
        dueAll("what undo() gave back", all(made(ROWS)), all(y));
        copiesOfNone(0, 5, 1, INDEX, ROWS);
        copiesOfNone(-1, 0, 0, INDEX, ROWS);
        copiesOfNone(0, -1, 0, INDEX, ROWS);
        copiesOfNone(0, 0, -1, INDEX, ROWS);
        copiesOfNone(0, 0, MAX, INDEX, ROWS);
        copiesOfNone(MAX, MAX, MAX, INDEX, ROWS);
        copiesOfNone(0, 0, 0, NULL, and(ROWS, z -> z.lose(0), z -> z.crossings(1)));
        copiesOfNone(0, 0, -1, NULL, and(ROWS, z -> z.lose(0), z -> z.crossings(1)));
    }

    /** The first GAUGE is refused: 0, a FINDING, STATUS, and no CHANGE. */
    private static void copiesOfNone(int i, int j, int n, int why, Town town) {
        PloughDepot x = made(town);
        due(0, x.copies(i, j, n));
        due(why, x.status());
        dueFindings(x, why == NULL ? 1 : 0, why == INDEX ? 1 : 0, 0, 0, 0);
        dueAll("what it left", all(made(town)), all(x));
        x = made(and(town, y -> y.copies(i, j, n), PloughDepot::undo));
        dueAll("what undo() left", all(made(and(town, PloughDepot::undo))), all(x));
    }

    private static void snowCall() {
        says("Promise 18", "SNOW of an HOUR (0 .. 199)");
        onlyFrom(BUSY, 0, 199, PloughDepot::snow);
        onlyFrom(EMPTY, 0, 199, PloughDepot::snow);

        says("Promise 18", "how many STREETS are not GUESSED.");
        due(0, made(crossings(2)).snow(0));
        due(0, made(line(4, 10)).snow(0));
        due(1, made(with(line(4, 10), y -> y.shut(0, true), gaugeAt(0, true, 5))).snow(0));
        due(2, made(with(line(4, 10), gaugeAt(0, true, 5))).snow(0));
        due(3, made(with(line(4, 10), gaugeAt(1, true, 5))).snow(0));
        PloughDepot full = made(ALL_FULL);
        due(60, full.count(0));
        // GAUGES stand at 40 to 59: STREETS 38 to 59 and 0 are NEAR one, twice all of them and once more STREET 0 as STREET 120
        due(23 + 23 + 1, full.snow(199));
        due(0, full.told(0, 1));
        due(1, full.told(1, 1));
        due(0, full.told(120, 1));
        due(0, full.told(38, 1));
        due(1, full.told(37, 1));

        says("Promise 18", "A CHANGE (whatever FINDINGS come: STATUS is 0).");
        change(BUSY, 5, x -> x.snow(0));
        change(BUSY, 4, x -> x.snow(1));
        change(BUSY, 0, x -> x.snow(199));
        change(and(BUSY, x -> x.lose(0), x -> x.lose(1), x -> x.lose(3), x -> x.crossings(1)), 0, x -> x.snow(0));

        says("Promise 18", "BAD.");
        refused(and(BUSY, x -> x.lose(0)), BAD, x -> x.snow(200));
    }

    private static void meltCall() {
        says("Promise 19", "how many whole s are in t ((t less the rest of t by s) / s, floats, as an int), 100000 at most");
        int[][] want = {{0, 1, 0}, {0, MAX, 0}, {1, 1, 1}, {6, 7, 0}, {7, 7, 1}, {13, 7, 1}, {14, 7, 2}, {99999, 1, 99999}, {100000, 1, 100000},
            {100001, 1, 100000}, {MAX, 1, 100000}, {MAX, MAX, 1}, {MAX, MAX - 1, 1}, {300000, 3, 100000}, {299999, 3, 99999},
            {16777216, 16777217, 1}, {16777217, 16777216, 1}, {1, MAX, 0}};
        for (int[] one : want) {
            change(BUSY, one[2], x -> x.melt(one[0], one[1]));
        }
        for (int k = 1; k < 400; k++) {
            int t = k * 5368709 + 7;
            int s = k * k * 13 + k;
            float ft = (float) t / 8f;
            float fs = (float) s / 8f;
            due(Math.min(100000, (int) ((ft - ft % fs) / fs)), new PloughDepot().melt(t, s));
        }

        says("Promise 19", "each STREET's DRIFT becomes 3 less for each, not below 0: how many. A CHANGE.");
        int[][] drifts = {{3, 1, 0}, {2, 1, 0}, {4, 1, 1}, {4, 2, 0}, {300, 99, 3}, {300, 100, 0}, {300, 101, 0}, {5, 0, 5}};
        for (int[] one : drifts) {
            PloughDepot x = made(and(star(2, 10), snowOf(one[0])));
            due(one[1], x.melt(one[1] * 8, 8));
            due(one[2], x.told(0, 0));
            due(one[2], x.told(1, 0));
        }
        // a SHUT one, and one that is GUESSED, melt as well, and stay so
        PloughDepot x = made(and(BUSY, y -> y.snow(1)));
        due(1, x.told(4, 1));
        due(10, x.melt(80, 8));
        dueStreet(x, 4, 120, 1, 0, 1, 1, 1, 70, 3, 4);
        dueStreet(x, 0, 0, 0, 1, 1, 0, 0, 100, 0, 1);
    }

    private static void meltRefusals() {
        says("Promise 19", "t and s (0 or more) as floats");
        for (int n : new int[] {-1, MIN}) {
            refused(BUSY, BAD, x -> x.melt(n, 1));
            refused(BUSY, BAD, x -> x.melt(1, n));
            refused(BUSY, BAD, x -> x.melt(n, n));
        }

        says("Promise 19", "BAD; NO: s is 0.");
        refused(BUSY, NO, x -> x.melt(1, 0));
        refused(BUSY, NO, x -> x.melt(0, 0));
        refused(BUSY, NO, x -> x.melt(MAX, 0));
        refused(BUSY, BAD, x -> x.melt(-1, 0));
    }
}
