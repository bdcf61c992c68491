/** The edges of FINDINGS, CHANGES and undo(): the terms of 5, and promises 37 to 42, sentence by sentence. */
public final class BookEdgesTest extends Edges {
    public static void main(String[] args) {
        fiveHundredAndTwelveCalls();
        kindsOfFindings();
        deepFindings();
        firstRefusals();
        refusalsAtOnce();
        changes();
        noChanges();
        answersBelowRefusals();
        whatUndoGivesBack();
        whatUndoLeaves();
        digestCall();
        digestOfGauges();
        undoCall();
        findingsCall();
        statusCall();
        statusStays();
        traceCall();
        countCall();
        allThatMayBeThere();
        end();
    }

    // ---- the terms

    private static void fiveHundredAndTwelveCalls() {
        says("What it is", "An object is used for at most 512 calls after it has been made");
        PloughDepot x = new PloughDepot();
        int calls = 0;
        for (int k = 0; k < 3; k++, calls++) {
            due(20 * (k + 1), x.crossings(20));
        }
        for (int s = 0; s < 150; s++, calls++) {
            due(s, x.street(s % 60, (s + 1) % 60, 1 + s, false));
        }
        // twice round, and STREETS 120 to 149 from 0 to 30, which are ODD
        for (; calls < 510; calls++) {
            due(150 + 30, x.round());
        }
        due(180, x.length(0));
        due(1, x.undo());
    }

    private static void kindsOfFindings() {
        says("Terms 5", "FINDINGS are counted by KIND: 0 NULL, 1 INDEX, 2 CAST, 3 SIZE, 4 DEEP");
        Town town = and(BUSY, x -> x.reading(0, 0, 16000), x -> x.snow(0));
        int[] were = {2, 2, 0, 0, 0};
        dueFindings(made(town), were);
        Call[] calls = {x -> x.read(2, 0), x -> x.read(0, 4), x -> x.salt(0, 0), x -> x.row(0, -1), x -> x.asks(0, 0, 3)};
        int[] whys = {NULL, INDEX, CAST, SIZE, DEEP};
        for (int kind = 0; kind < 5; kind++) {
            PloughDepot x = made(town);
            for (int times = 1; times <= 3; times++) {
                due(whys[kind], calls[kind].on(x));
                int[] want = were.clone();
                want[kind] += times;
                dueFindings(x, want);
            }
        }
        // BAD, FULL, NO are none
        PloughDepot x = made(and(EMPTY, y -> y.crossings(20), y -> y.crossings(20), y -> y.crossings(20)));
        due(BAD, x.crossings(0));
        due(FULL, x.crossings(1));
        due(NO, x.way(0, 1));
        due(NO, x.melt(1, 0));
        dueFindings(x, 0, 0, 0, 0, 0);
    }

    private static void deepFindings() {
        says("Terms 5", "4 DEEP (TOO DEEP in asks(), go(), not in split())");
        Town deep = and(line(2, 100), x -> x.plough(0, 100), PloughDepot::round, PloughDepot::split, snowOf(401));
        PloughDepot x = made(deep);
        due(0, x.split());
        due(0, x.findings(4));
        due(DEEP, x.asks(0, 0, 3));
        due(1, x.findings(4));
        due(2, x.asks(0, 0, 2));
        due(1, x.findings(4));
        due(1, x.go(0, 1));
        due(2, x.findings(4));
        due(1, x.go(0, 1));
        due(2, x.findings(4));
    }

    private static void firstRefusals() {
        says("Terms 5", "Refusals, of several the first here: BAD (there is no such; a number is not as told); FULL");
        refused(crossings(60), BAD, x -> x.crossings(21));
        refused(ALL_FULL, BAD, x -> x.street(0, 60, 5, false));
        refused(ALL_FULL, BAD, x -> x.street(0, 0, 5, false));
        refused(ALL_FULL, BAD, x -> x.street(0, 1, 0, false));
        refused(ALL_FULL, FULL, x -> x.street(0, 1, 1, false));
        refused(ALL_FULL, BAD, x -> x.gauge(60, false));
        refused(ALL_FULL, FULL, x -> x.gauge(0, false));
        refused(ALL_FULL, BAD, x -> x.plough(4, 5));
        refused(ALL_FULL, FULL, x -> x.plough(3, 5));
        refused(ALL_FULL, BAD, x -> x.pair(0, 12, 5));
        refused(ALL_FULL, FULL, x -> x.pair(0, 11, 5));
        refused(ALL_FULL, FULL, x -> x.crossings(1));
    }

    private static void refusalsAtOnce() {
        says("Terms 5", "then, as a call meets them: NULL (MISSING; OUT), INDEX (no such HOUR), CAST (it is no such KIND), SIZE (below 0), "
            + "each a FINDING, too; NO (there is none).");
        // MISSING and no such HOUR
        refused(BUSY, NULL, x -> x.read(2, 200));
        refused(BUSY, NULL, x -> x.reading(2, -1, 5));
        refused(BUSY, NULL, x -> x.none(2, 4, 1));
        refused(BUSY, NULL, x -> x.copy(0, 9, 2, 9, 9));
        // OUT, and no SALTER; OUT, and no PART; OUT, and TOO DEEP
        refused(BUSY, NULL, x -> x.salt(6, 0));
        refused(BUSY, NULL, x -> x.go(6, 1));
        refused(and(BUSY, x -> x.reading(0, 0, 16000), x -> x.snow(0)), NULL, x -> x.asks(6, 0, 3));
        // no such GAUGE, and below 0; below 0, and MISSING
        refused(BUSY, BAD, x -> x.row(9, -1));
        refused(BUSY, SIZE, x -> x.row(2, -1));
        // FULL, and OUT or a PAIR
        Town full = and(ALL_FULL, PloughDepot::undo, x -> x.pair(0, 1, 5));
        refused(full, FULL, x -> x.pair(0, 2, 5));
        refused(full, FULL, x -> x.pair(11, 2, 5));
        refused(full, BAD, x -> x.pair(11, 11, 5));
    }

    /** All calls that tell that they are CHANGES, with answers that are no refusals; each once with something to change and once without. */
    private static void changes() {
        says("Terms 5", "CHANGES are all calls that tell that they are, and are not refused.");
        change(BUSY, 8, x -> x.crossings(1));
        change(BUSY, 5, x -> x.street(5, 6, 1, false));
        change(BUSY, 0, x -> x.oneWay(0, true));
        change(BUSY, 0, x -> x.oneWay(0, false));
        change(BUSY, 0, x -> x.shut(0, true));
        change(BUSY, 0, x -> x.shut(0, false));
        change(BUSY, 1, x -> x.sides(0, 2));
        change(BUSY, 1, x -> x.sides(1, 1));
        change(BUSY, 4, x -> x.gauge(0, false));
        change(BUSY, 1, x -> x.row(0, 9));
        change(BUSY, 1, x -> x.row(3, 0));
        change(BUSY, 1, x -> x.lose(0));
        change(BUSY, 0, x -> x.lose(2));
        change(BUSY, 1, x -> x.reading(0, 0, 8));
        change(BUSY, 1, x -> x.reading(0, 0, 160));
        change(BUSY, 1, x -> x.none(0, 0, 0));
        change(BUSY, 1, x -> x.none(1, 1, 0));
        change(BUSY, 1, x -> x.copy(0, 0, 0, 1, 3));
        change(BUSY, 1, x -> x.copy(0, 0, 0, 0, 0));
        change(BUSY, 5, x -> x.snow(0));
        change(BUSY, 0, x -> x.snow(100));
        change(BUSY, 2, x -> x.melt(16, 8));
        change(BUSY, 0, x -> x.melt(0, 8));
        change(BUSY, 7, x -> x.plough(0, 5));
        change(BUSY, 7, x -> x.pair(0, 5, 5));
        change(BUSY, 1, x -> x.out(0));
        change(BUSY, 0, x -> x.out(6));
        change(BUSY, 116, x -> x.salt(5, 1));
        change(BUSY, 0, x -> x.salt(5, 0));
        change(BUSY, 5, PloughDepot::round);
        change(BUSY, 1, PloughDepot::split);
        change(BUSY, 3, x -> x.go(0, 9));
        change(and(BUSY, x -> x.row(2, 4), x -> x.row(3, 4), x -> x.crossings(1)), 4, x -> x.copies(0, 1, 2));
        change(and(BUSY, x -> x.row(2, 4), x -> x.row(3, 4), x -> x.crossings(1)), 4, x -> x.copies(0, 0, 0));
    }

    private static void noChanges() {
        says("Terms 5", "CHANGES are all calls that tell that they are");
        noChange(BUSY, 166, x -> x.told(1, 0));
        noChange(BUSY, 180, x -> x.way(0, 3));
        noChange(BUSY, 2, x -> x.wayAt(0, 3, 0));
        noChange(BUSY, 200, x -> x.read(0, 0));
        noChange(BUSY, 4, x -> x.asks(1, 0, 2));
        noChange(BUSY, NONE, x -> x.odd(0));
        noChange(BUSY, 0, x -> x.least(0));
        noChange(BUSY, 1, x -> x.at(1, 0));
        noChange(BUSY, 430, x -> x.length(1));
        noChange(BUSY, NONE, x -> x.partner(0));
        noChange(BUSY, 8, x -> x.part(0, 5));
        noChange(BUSY, 12, PloughDepot::text);
        noChange(BUSY, made(BUSY).digest(), PloughDepot::digest);
        noChange(BUSY, 1, PloughDepot::looks);
        noChange(BUSY, '+', x -> x.sign(0));
        noChange(BUSY, 1, x -> x.findings(0));
        noChange(BUSY, 0, PloughDepot::status);
        noChange(BUSY, made(BUSY).trace(), PloughDepot::trace);
        noChange(BUSY, 7, x -> x.count(0));
        // those that are CHANGES only if something came of it
        noChange(and(BUSY, x -> x.shut(1, true)), 0, x -> x.go(0, 9));
        noChange(and(BUSY, x -> x.out(1), x -> x.out(4), x -> x.out(5)), 0, PloughDepot::split);
    }

    private static void answersBelowRefusals() {
        says("Terms 5", "What is refused changes nothing but FINDINGS, THE TRACE, STATUS.");
        // each call that can be refused, by what it is refused; a CHANGE ahead of it is what undo() takes back
        refused(BUSY, BAD, x -> x.crossings(0));
        refused(BUSY, BAD, x -> x.street(0, 0, 1, false));
        refused(BUSY, BAD, x -> x.oneWay(5, true));
        refused(BUSY, BAD, x -> x.shut(5, true));
        refused(BUSY, BAD, x -> x.sides(5, 1));
        refused(BUSY, BAD, x -> x.told(5, 0));
        refused(BUSY, NO, x -> x.way(0, 5));
        refused(BUSY, NO, x -> x.wayAt(0, 5, 0));
        refused(BUSY, BAD, x -> x.gauge(7, false));
        refused(BUSY, SIZE, x -> x.row(0, -1));
        refused(BUSY, BAD, x -> x.lose(4));
        refused(BUSY, INDEX, x -> x.reading(0, 4, 9));
        refused(BUSY, INDEX, x -> x.none(0, 4, 0));
        refused(BUSY, INDEX, x -> x.read(0, 4));
        refused(BUSY, INDEX, x -> x.copy(0, 0, 0, 1, 4));
        refused(BUSY, BAD, x -> x.snow(200));
        refused(BUSY, NO, x -> x.melt(9, 0));
        refused(BUSY, BAD, x -> x.plough(4, 5));
        refused(BUSY, CAST, x -> x.pair(0, 4, 5));
        refused(BUSY, BAD, x -> x.out(7));
        refused(BUSY, NULL, x -> x.asks(6, 0, 0));
        refused(and(BUSY, x -> x.reading(0, 0, 16000), x -> x.snow(0)), DEEP, x -> x.asks(0, 0, 3));
        refused(BUSY, CAST, x -> x.salt(0, 1));
        refused(BUSY, BAD, x -> x.least(1));
        refused(and(BUSY, x -> x.street(5, 6, 9, false)), NO, PloughDepot::round);
        refused(BUSY, BAD, x -> x.at(0, 4));
        refused(BUSY, BAD, x -> x.length(7));
        refused(BUSY, BAD, x -> x.partner(7));
        refused(BUSY, BAD, x -> x.part(7, 0));
        refused(BUSY, NO, x -> x.go(4, 1));
    }

    private static void whatUndoGivesBack() {
        says("Terms 5", "undo() gives THE MAP, GAUGES, DRIFTS, PLOUGHS, THE ROUND and PARTS as they were ahead of the latest one");
        // what comes behind an undo() finds nothing of what was undone
        PloughDepot x = made(and(BUSY, y -> y.street(5, 6, 9, true), PloughDepot::undo, y -> y.street(6, 5, 8, false)));
        dueStreet(x, 5, 0, 0, 0, 1, 0, 0, 8, 6, 5);
        x = made(and(BUSY, y -> y.gauge(5, true), PloughDepot::undo, y -> y.gauge(6, false), y -> y.row(4, 1), y -> y.reading(4, 0, 8)));
        due(10, x.read(4, 0));
        x = made(and(BUSY, y -> y.plough(1, 9), PloughDepot::undo, y -> y.plough(2, 8)));
        duePart(x, 7, 0, 0, 0, 0, 0, 8, 2, 0, 0);
        due(45, x.asks(7, 0, 0));
        x = made(and(BUSY, y -> y.pair(0, 5, 9), PloughDepot::undo, y -> y.pair(1, 5, 8)));
        due(800, x.asks(7, 0, 1));
        due(50, x.asks(0, 0, 0));
        x = made(and(BUSY, y -> y.row(0, 2), PloughDepot::undo));
        due(200, x.read(0, 0));
        due(0, x.read(0, 3));
        x = made(and(BUSY, y -> y.lose(0), PloughDepot::undo));
        due(200, x.read(0, 0));
        // DRIVES go on from where they were
        x = made(and(BUSY, y -> y.go(0, 2), PloughDepot::undo));
        due(3, x.go(0, 50));
        duePart(x, 0, 0, 4, 4, 8, 8, 8, 0, 0, 0);
        // WAYS and ODD CROSSINGS, asked ahead of it, between, and behind it
        x = made(line(3, 10));
        due(20, x.way(0, 2));
        due(2, x.odd(1));
        x.street(0, 2, 5, false);
        due(5, x.way(0, 2));
        due(NONE, x.odd(1));
        due(1, x.undo());
        due(20, x.way(0, 2));
        due(2, x.odd(1));
        due(20, x.least(3));
    }

    private static void whatUndoLeaves() {
        says("Terms 5", "(not FINDINGS, THE TRACE, looks())");
        PloughDepot x = made(and(BUSY, y -> y.reading(0, 0, 16000), y -> y.snow(0)));
        dueFindings(x, 2, 2, 0, 0, 0);
        int trace = x.trace();
        due(1, x.undo());
        dueFindings(x, 2, 2, 0, 0, 0);
        due(trace, x.trace());
        due(5, x.snow(0));
        due(2, x.go(0, 2));
        due(2, x.findings(4));
        int after = x.trace();
        due(3, x.looks());
        due(1, x.undo());
        due(2, x.findings(4));
        due(after, x.trace());
        due(3, x.looks());
    }

    // ---- the promises

    private static int digestOf(int... numbers) {
        int sum = 7;
        for (int n : numbers) {
            sum = 31 * sum + n;
        }
        return sum;
    }

    private static void digestCall() {
        says("Promise 37", "All as one number: from 7 on, 31 times and: CROSSINGS; of each STREET told() 0 to 8; of each GAUGE its CROSSING, "
            + "how many readings (NONE: MISSING), and of each reading what read() tells; of each PLOUGH part() 0 to 8; of each DRIVE at() 0 to 3.");
        noChange(EMPTY, 217, PloughDepot::digest);
        noChange(crossings(60), digestOf(60), PloughDepot::digest);
        noChange(and(crossings(2), x -> x.street(1, 0, 9, true)), digestOf(2, 0, 0, 0, 1, 0, 1, 9, 1, 0), PloughDepot::digest);
        noChange(and(EMPTY, x -> x.plough(3, 9)), digestOf(0, 0, 0, 0, 0, 0, 9, 3, 0, 0), PloughDepot::digest);
        noChange(and(EMPTY, x -> x.plough(3, 9), x -> x.out(0)), digestOf(0, 0, 0, 0, 0, 0, 9, -1, 0, 0), PloughDepot::digest);
        noChange(and(line(2, 9), PloughDepot::round), digestOf(2, 0, 0, 0, 1, 0, 0, 9, 0, 1, 0, 0, 1, 1, 0, 1, 0, 0), PloughDepot::digest);
        // all of them, in their order
        noChange(BUSY, digestOf(7,
            0, 0, 1, 1, 0, 0, 100, 0, 1, 166, 0, 0, 1, 0, 0, 90, 1, 2, 175, 0, 0, 1, 0, 0, 120, 2, 0,
            166, 0, 0, 2, 0, 0, 60, 2, 3, 150, 0, 0, 1, 1, 1, 70, 3, 4,
            0, 4, 200, 0, 0, 0, 2, 4, 150, -1, 0, 0, 3, -1, 1, 0,
            0, 4, 1, 2, 8, 8, 0, 0, 0, 4, 1, 0, 0, 4, 500, 1, 0, 0, 0, 0, 0, 0, 0, 100, -1, 0, 0, 0, 0, 0, 0, 0, 100, -1, 0, 0,
            5, 0, 0, 0, 0, 300, 4, 0, 0, 5, 0, 0, 0, 0, 200, 2, 0, 0, 0, 0, 0, 0, 0, 50, -1, 0, 0,
            0, 0, 1, 1, 1, 1, 2, 1, 3, 2, 3, 1, 3, 3, 2, 1, 2, 2, 0, 1), PloughDepot::digest);
    }

    private static void digestOfGauges() {
        says("Promise 37", "how many readings (NONE: MISSING), and of each reading what read() tells");
        Town one = and(crossings(2), x -> x.gauge(1, false));
        noChange(one, digestOf(2, 1, -1), PloughDepot::digest);
        noChange(and(one, x -> x.row(0, 0)), digestOf(2, 1, 0), PloughDepot::digest);
        noChange(and(one, x -> x.row(0, 1)), digestOf(2, 1, 1, 0), PloughDepot::digest);
        noChange(and(one, x -> x.row(0, 2), x -> x.none(0, 0, 0), x -> x.none(0, 1, 1)), digestOf(2, 1, 2, -1, -1), PloughDepot::digest);
        noChange(and(one, x -> x.row(0, 1), x -> x.reading(0, 0, MAX)), digestOf(2, 1, 1, 100000), PloughDepot::digest);
        noChange(and(one, x -> x.row(0, 1), x -> x.reading(0, 0, -8)), digestOf(2, 1, 1, 0), PloughDepot::digest);
        noChange(and(one, x -> x.row(0, 1), x -> x.lose(0)), digestOf(2, 1, -1), PloughDepot::digest);
        // it reads nothing that is missing: no FINDINGS
        PloughDepot x = made(one);
        x.digest();
        dueFindings(x, 0, 0, 0, 0, 0);
    }

    private static void undoCall() {
        says("Promise 38", "As it was ahead of the latest CHANGE: 1; 0: there was none since the latest undo(), or ever.");
        noChange(EMPTY, 0, PloughDepot::undo);
        PloughDepot x = made(crossings(1));
        due(2, x.crossings(1));
        due(3, x.crossings(1));
        // the latest one alone
        due(1, x.undo());
        due(0, x.status());
        due(2, x.count(0));
        due(0, x.undo());
        due(0, x.status());
        due(2, x.count(0));
        // behind a new CHANGE it is there again
        due(4, x.crossings(2));
        due(1, x.undo());
        due(2, x.count(0));
        // the first CHANGE of all
        x = made(crossings(1));
        due(1, x.undo());
        dueAll("a new object", all(new PloughDepot()), all(x));
        due(0, x.undo());
        // refused calls between are none, nor are questions
        x = made(crossings(1));
        due(BAD, x.crossings(0));
        due(0, x.way(0, 0));
        due(NO, x.melt(1, 0));
        due(1, x.undo());
        due(0, x.count(0));
        // a refused call behind an undo() brings nothing back
        due(BAD, x.crossings(0));
        due(0, x.undo());
        // the greatest town
        change(ALL_FULL, 1, y -> y.row(19, 0));
        change(ALL_FULL, 150 + 30, PloughDepot::round);
    }

    private static void findingsCall() {
        says("Promise 39", "FINDINGS of a KIND (0 .. 4). BAD.");
        for (int kind = 0; kind < 5; kind++) {
            due(kind < 2 ? 1 : 0, made(BUSY).findings(kind));
            due(0, new PloughDepot().findings(kind));
        }
        for (int kind : new int[] {-1, 5, MIN, MAX}) {
            PloughDepot x = made(BUSY);
            due(BAD, x.findings(kind));
            dueFindings(x, 1, 1, 0, 0, 0);
            due(1, x.undo());
            due(6, x.count(0));
        }
    }

    private static void statusCall() {
        says("Promise 40", "STATUS: what the latest call was refused by (BAD to DEEP), 0: it was not");
        due(0, new PloughDepot().status());
        Town town = and(BUSY, x -> x.reading(0, 0, 16000), x -> x.snow(0));
        Call[] refusals = {x -> x.crossings(0), x -> x.street(0, 1, 5, false), x -> x.read(2, 0), x -> x.read(0, 9), x -> x.salt(0, 0),
            x -> x.row(0, -1), x -> x.melt(1, 0), x -> x.asks(0, 0, 3)};
        int[] whys = {BAD, FULL, NULL, INDEX, CAST, SIZE, NO, DEEP};
        Call[] taken = {x -> x.crossings(1), x -> x.oneWay(0, false), x -> x.shut(0, false), x -> x.sides(0, 1), x -> x.told(0, 0), x -> x.way(0, 0),
            x -> x.wayAt(0, 0, 0), x -> x.gauge(0, true), x -> x.row(0, 1), x -> x.lose(0), x -> x.reading(0, 0, 1), x -> x.none(0, 0, 0),
            x -> x.read(0, 0), x -> x.copy(0, 0, 0, 0, 1), x -> x.snow(0), x -> x.melt(1, 1), x -> x.plough(0, 1), x -> x.pair(0, 1, 1),
            x -> x.out(0), x -> x.asks(0, 0, 0), x -> x.salt(5, 0), x -> x.odd(0), x -> x.least(0), x -> x.round(), x -> x.at(0, 0),
            x -> x.length(0), x -> x.partner(0), x -> x.split(), x -> x.part(0, 0), x -> x.go(0, 1), x -> x.text(), x -> x.digest(),
            x -> x.undo(), x -> x.at(-1, 0), x -> x.odd(-1), x -> x.wayAt(0, 0, -1), x -> x.read(1, 1), x -> x.lose(2), x -> x.out(6)};
        for (int k = 0; k < whys.length; k++) {
            Town here = whys[k] == FULL ? and(town, x -> {
                for (int s = x.count(1); s < 150; s++) {
                    x.street(5, 6, 1, true);
                    x.shut(s, true);
                }
                return 0;
            }) : town;
            for (int t = 0; t < taken.length; t += whys[k] == BAD ? 1 : 7) {
                PloughDepot x = made(here);
                due(whys[k], refusals[k].on(x));
                due(whys[k], x.status());
                taken[t].on(x);
                due(0, x.status());
            }
        }
        // copies(): by its first refusal, and 0 without one
        PloughDepot x = made(and(BUSY, y -> y.crossings(0)));
        due(2, x.copies(0, 0, 1));
        due(NULL, x.status());
        due(0, made(and(EMPTY, y -> y.crossings(0), y -> y.copies(0, 0, 1))).status());
    }

    private static void statusStays() {
        says("Promise 40", "not of status(), findings(), trace(), looks(), sign(), count() themselves");
        Call[] calls = {PloughDepot::status, x -> x.findings(0), x -> x.findings(5), x -> x.findings(-1), PloughDepot::trace, PloughDepot::looks,
            x -> x.sign(0), x -> x.sign(-1), x -> x.sign(9999), x -> x.count(0), x -> x.count(4), x -> x.count(-1)};
        for (Call call : calls) {
            PloughDepot x = made(and(BUSY, y -> y.melt(1, 0)));
            call.on(x);
            due(NO, x.status());
            x = made(BUSY);
            call.on(x);
            due(0, x.status());
            x = new PloughDepot();
            call.on(x);
            due(0, x.status());
        }
    }

    private static void traceCall() {
        says("Promise 41", "THE TRACE.");
        due(0, new PloughDepot().trace());
        PloughDepot x = made(BUSY);
        // split(): four of the TRUCK and one that it could not, one of the BLOWER; go(): one of the TRUCK
        due(5 * 101 + 1001 + 101, x.trace());
        due(5 * 101 + 1001 + 101, x.trace());
        due(1, x.undo());
        due(5 * 101 + 1001 + 101, x.trace());
    }

    private static void countCall() {
        says("Promise 42", "0 CROSSINGS, 1 STREETS, 2 GAUGES, 3 PLOUGHS.");
        int[] busy = {7, 5, 4, 7};
        int[] full = {60, 150, 20, 12};
        for (int what = 0; what < 4; what++) {
            due(0, new PloughDepot().count(what));
            due(busy[what], made(BUSY).count(what));
            due(full[what], made(ALL_FULL).count(what));
        }
        // SHUT, MISSING and OUT ones are counted; undone ones are not
        due(5, made(and(BUSY, x -> x.shut(0, true))).count(1));
        due(4, made(and(BUSY, x -> x.lose(0))).count(2));
        due(7, made(and(BUSY, x -> x.out(0))).count(3));
        due(6, made(and(BUSY, PloughDepot::undo)).count(0));

        says("Promise 42", "BAD.");
        for (int what : new int[] {-1, 4, MIN, MAX}) {
            PloughDepot x = made(BUSY);
            due(BAD, x.count(what));
            due(0, x.status());
            due(1, x.undo());
        }
    }

    private static void allThatMayBeThere() {
        says("Terms 5", "What is refused changes nothing but FINDINGS, THE TRACE, STATUS.");
        PloughDepot x = made(ALL_FULL);
        due(0, x.oneWay(149, true));
        due(BAD, x.oneWay(150, true));
        due(1, x.oneWay(149, false));
        due(0, x.shut(149, true));
        due(1, x.sides(149, 2));
        due(1, x.reading(19, 199, 77));
        due(77, x.read(19, 199));
        due(1, x.none(18, 199, 1));
        due(BAD, x.read(20, 199));
        due(1, x.copy(19, 0, 17, 0, 200));
        due(77, x.read(17, 199));
        due(20, x.copies(0, 199, 1));
        due(0, x.read(17, 199));
        due(501, x.asks(11, 149, 2));
        due(BAD, x.asks(12, 149, 2));
        due(225, x.asks(10, 148, 2));
        due(0, x.salt(10, 149));
        due(BAD, x.told(150, 0));
        // STREET 149 is SHUT: 0 and 29 are ODD
        due(149 + 29, x.round());
        due(1, x.split());
        due(50, x.go(0, 50));
        due(1, x.out(11));
        due(1, x.undo());
        due(3, x.part(11, 6));
    }
}
