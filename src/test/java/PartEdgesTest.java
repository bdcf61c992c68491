/** The edges of PARTS: the terms of 4 about split(), and promises 31 to 36, sentence by sentence. */
public final class PartEdgesTest extends Edges {
    /** Four DRIVES that CLEAR, each of 2 minutes by a TRUCK, 4 by a BLOWER. */
    private static final Town RING = and(ring(4, 100, false), PloughDepot::round);
    /** Eight DRIVES that CLEAR, the third to the sixth in a DRIFT of 500. */
    private static final Town DRIFTED = and(ring(8, 100, false), x -> x.gauge(4, true), x -> x.row(0, 1), x -> x.reading(0, 0, 500), x -> x.snow(0),
        PloughDepot::round);
    /** One STREET of two DRIVES, + and -, both of a TRUCK with 4 minutes, which are just enough. */
    private static final Town TWO = and(line(2, 100), x -> x.plough(0, 4), PloughDepot::round, PloughDepot::split);

    public static void main(String[] args) {
        upToItsMinutes();
        upToTooDeep();
        whoTakesNone();
        splitCall();
        partsStay();
        partCall();
        passesCounted();
        minutesExceeded();
        goCall();
        goUpToShut();
        goByDriftAsItIs();
        goClears();
        goRefusals();
        looksCall();
        textCall();
        textLetters();
        longTexts();
        signCall();
        end();
    }

    private static Call plough(int kind, int minutes) {
        return x -> x.plough(kind, minutes);
    }

    private static PloughDepot split(Town town, Call... calls) {
        PloughDepot x = made(and(town, calls));
        due(1, x.split());
        return x;
    }

    // ---- the terms

    private static void upToItsMinutes() {
        says("Terms 4", "with which its DRIVES would have more than its MINUTES");
        int[][] minutesDrivesFound = {{0, 0, 0}, {1, 0, 0}, {2, 1, 2}, {3, 1, 2}, {4, 2, 4}, {7, 3, 6}, {8, 4, 8}, {9, 4, 8}, {10000, 4, 8}};
        for (int[] one : minutesDrivesFound) {
            PloughDepot x = split(RING, plough(0, one[0]), plough(1, 10000));
            duePart(x, 0, 0, one[1], 0, 0, one[2], one[0], 0, 0, 0);
            duePart(x, 1, one[1], 4 - one[1], 0, 0, 4 * (4 - one[1]), 10000, 1, 0, 0);
        }
    }

    private static void upToTooDeep() {
        says("Terms 4", "each takes DRIVES from where the one before ended, up to the first that is TOO DEEP for it");
        PloughDepot x = split(DRIFTED, plough(0, 100), plough(0, 100), plough(1, 16), plough(0, 100));
        duePart(x, 0, 0, 2, 0, 0, 4, 100, 0, 0, 0);
        duePart(x, 1, 2, 0, 0, 0, 0, 100, 0, 0, 0);
        duePart(x, 2, 2, 4, 0, 0, 16, 16, 1, 0, 0);
        duePart(x, 3, 6, 2, 0, 0, 4, 100, 0, 0, 0);

        says("Terms 4", "(that DRIVE is asked of the next one, too)");
        // TRUCK: two and one that is TOO DEEP; TRUCK: that one; BLOWER: four and one beyond its MINUTES; TRUCK: two
        due(2 * 101 + 100 + 100 + 5 * 1001 + 2 * 101, x.trace());
        dueFindings(x, 0, 0, 0, 0, 0);

        says("Terms 4", "with the PLOUGHS that are not OUT, by number");
        x = split(DRIFTED, plough(0, 100), plough(1, 100), plough(1, 16), plough(0, 100), y -> y.out(1), y -> y.out(0), plough(0, 5), plough(1, 99),
            y -> y.undo(), y -> y.pair(2, 3, 24), plough(1, 8));
        // 0 and 1 are OUT, 2 and 3 as the PAIR 5 (SPEED 30, so 4 for each DRIVE); 4 has 5 minutes; 6 takes what is left
        due(NONE, x.part(0, 6));
        duePart(x, 2, 0, 0, 0, 0, 0, 16, NONE, 0, 0);
        duePart(x, 4, 0, 2, 0, 0, 4, 5, 0, 0, 0);
        duePart(x, 5, 2, 6, 0, 0, 24, 24, 4, 0, 0);
        duePart(x, 6, 8, 0, 0, 0, 0, 8, 1, 0, 0);
    }

    private static void whoTakesNone() {
        says("Terms 4", "who takes none has a PART of no DRIVES there.");
        // ahead of all, between two, and behind all of them
        PloughDepot x = split(RING, plough(0, 1), plough(0, 4), plough(0, 1), plough(0, 4), plough(0, 4));
        duePart(x, 0, 0, 0, 0, 0, 0, 1, 0, 0, 0);
        duePart(x, 1, 0, 2, 0, 0, 4, 4, 0, 0, 0);
        duePart(x, 2, 2, 0, 0, 0, 0, 1, 0, 0, 0);
        duePart(x, 3, 2, 2, 0, 0, 4, 4, 0, 0, 0);
        duePart(x, 4, 4, 0, 0, 0, 0, 4, 0, 0, 0);
        due(NO, x.go(0, 1));
        due(NO, x.go(2, 1));
        due(NO, x.go(4, 1));
    }

    // ---- the promises

    private static void splitCall() {
        says("Promise 31", "PARTS are given: 1 (a CHANGE)");
        change(and(RING, plough(0, 8)), 1, PloughDepot::split);
        change(BUSY, 1, PloughDepot::split);
        // all 12, of one DRIVE each
        PloughDepot x = made(and(ring(12, 100, false), PloughDepot::round));
        for (int p = 0; p < 12; p++) {
            x.plough(0, 3);
        }
        due(1, x.split());
        for (int p = 0; p < 12; p++) {
            duePart(x, p, p, 1, 0, 0, 2, 3, 0, 0, 0);
        }
        // no DRIVES: all of them are taken
        change(EMPTY, 1, PloughDepot::split);
        change(and(RING, y -> y.sides(0, 0), y -> y.sides(1, 0), y -> y.sides(2, 0), y -> y.sides(3, 0), PloughDepot::round), 1, PloughDepot::split);
        change(and(line(2, 5), plough(0, 5)), 1, PloughDepot::split);
        duePart(made(and(line(2, 5), plough(0, 5), PloughDepot::split)), 0, 0, 0, 0, 0, 0, 5, 0, 0, 0);

        says("Promise 31", "0: not all DRIVES are taken (PARTS stay as they were).");
        noChange(RING, 0, PloughDepot::split);
        noChange(and(RING, plough(0, 7)), 0, PloughDepot::split);
        noChange(and(RING, plough(0, 5), plough(0, 3)), 0, PloughDepot::split);
        noChange(and(RING, plough(0, 8), y -> y.out(0)), 0, PloughDepot::split);
        noChange(and(DRIFTED, plough(0, 10000)), 0, PloughDepot::split);
        noChange(and(BUSY, y -> y.out(1), y -> y.out(4), y -> y.out(5)), 0, PloughDepot::split);
    }

    private static void partsStay() {
        says("Promise 31", "(PARTS stay as they were)");
        // STREET 2 is deeper now than all but the BLOWER may drive, which is OUT
        PloughDepot x = made(and(BUSY, y -> y.out(1), y -> y.reading(0, 0, 16000), y -> y.snow(0)));
        duePart(x, 0, 0, 4, 1, 2, 8, 8, 0, 0, 0);
        int trace = x.trace();
        due(0, x.split());
        due(0, x.status());
        duePart(x, 0, 0, 4, 1, 2, 8, 8, 0, 0, 0);
        // TOO DEEP in split() is no FINDING, but was asked
        due(0, x.findings(4));
        due(100 + 10000 + 100, x.trace() - trace);
        // PARTS that were begun are given anew, by all that is so now
        x = made(BUSY);
        due(1, x.split());
        duePart(x, 0, 0, 4, 0, 0, 8, 8, 0, 0, 0);
        duePart(x, 1, 4, 1, 0, 0, 4, 500, 1, 0, 0);
        duePart(x, 2, 0, 0, 0, 0, 0, 100, NONE, 0, 0);
        duePart(x, 4, 5, 0, 0, 0, 0, 300, 4, 0, 0);
        duePart(x, 5, 5, 0, 0, 0, 0, 200, 2, 0, 0);
        duePart(x, 6, 0, 0, 0, 0, 0, 50, NONE, 0, 0);
        // what stands SHUT is taken as well
        change(and(RING, plough(0, 8), y -> y.shut(2, true)), 1, PloughDepot::split);
    }

    private static void partCall() {
        says("Promise 32", "0 the first DRIVE of its PART, 1 how many DRIVES it has, 2 how many were driven, 3 the MINUTES that these took, "
            + "4 the MINUTES that split() found for the PART, 5 its MINUTES, 6 its KIND (NONE: OUT)");
        duePart(made(BUSY), 0, 0, 4, 1, 2, 8, 8, 0, 0, 0);
        duePart(made(BUSY), 1, 4, 1, 0, 0, 4, 500, 1, 0, 0);
        duePart(made(BUSY), 4, 5, 0, 0, 0, 0, 300, 4, 0, 0);
        duePart(made(and(BUSY, x -> x.go(1, 1))), 1, 4, 1, 1, 4, 4, 500, 1, 0, 0);
        duePart(made(BUSY), 2, 0, 0, 0, 0, 0, 100, NONE, 0, 0);
        noChange(BUSY, 8, x -> x.part(0, 4));
        noChange(BUSY, NONE, x -> x.part(6, 6));

        says("Promise 32", "(0 to 4, 7, 8 are 0 without a PART.)");
        duePart(made(and(BUSY, plough(3, 9))), 7, 0, 0, 0, 0, 0, 9, 3, 0, 0);
        Town begun = and(TWO, snowOf(300), x -> x.go(0, 2));
        duePart(made(begun), 0, 0, 2, 2, 6, 4, 4, 0, 1, 1);
        duePart(made(and(begun, PloughDepot::round)), 0, 0, 0, 0, 0, 0, 4, 0, 0, 0);
        duePart(made(and(begun, x -> x.out(0))), 0, 0, 0, 0, 0, 0, 4, NONE, 0, 0);
        duePart(made(and(begun, plough(0, 1), x -> x.pair(0, 1, 1))), 0, 0, 0, 0, 0, 0, 4, NONE, 0, 0);

        says("Promise 32", "BAD.");
        onlyFrom(BUSY, 0, 8, (x, n) -> x.part(0, n));
        onlyFrom(BUSY, 0, 6, (x, n) -> x.part(n, 0));
        refused(BUSY, BAD, x -> x.part(7, 9));
    }

    private static void passesCounted() {
        says("Promise 32", "7 DRIVES that CLEARED by more PASSES than one");
        int[][] driftAndMany = {{200, 0}, {201, 1}, {400, 1}, {401, 0}};
        for (int[] one : driftAndMany) {
            due(one[1], made(and(TWO, snowOf(one[0]), x -> x.go(0, 2))).part(0, 7));
        }
        // three PASSES are one DRIVE
        Town blower = and(line(2, 100), plough(1, 100), PloughDepot::round, PloughDepot::split);
        due(0, made(and(blower, snowOf(600), x -> x.go(0, 2))).part(0, 7));
        due(1, made(and(blower, snowOf(601), x -> x.go(0, 2))).part(0, 7));
        // both SIDES, one DRIVE each
        Town both = and(line(2, 100), x -> x.sides(0, 2), plough(0, 100), PloughDepot::round, PloughDepot::split, snowOf(300));
        due(1, made(and(both, x -> x.go(0, 1))).part(0, 7));
        due(2, made(and(both, x -> x.go(0, 1), x -> x.go(0, 1))).part(0, 7));
    }

    private static void minutesExceeded() {
        says("Promise 32", "8 DRIVES behind which it had more than its MINUTES");
        // 4 minutes and 2 more: the second DRIVE; as much as its MINUTES is not more
        due(0, made(and(TWO, x -> x.go(0, 2))).part(0, 8));
        duePart(made(and(TWO, snowOf(300), x -> x.go(0, 1))), 0, 0, 2, 1, 4, 4, 4, 0, 1, 0);
        duePart(made(and(TWO, snowOf(300), x -> x.go(0, 2))), 0, 0, 2, 2, 6, 4, 4, 0, 1, 1);
        // 8 minutes for four DRIVES, each of 4 now: behind the third and the fourth
        Town ring = and(RING, plough(0, 8), PloughDepot::split, x -> x.gauge(0, true), x -> x.gauge(2, true), x -> x.row(0, 1), x -> x.row(1, 1),
            x -> x.reading(0, 0, 300), x -> x.reading(1, 0, 300), x -> x.snow(0));
        int[] over = {0, 0, 0, 1, 2};
        for (int n = 1; n <= 4; n++) {
            int many = n;
            duePart(made(and(ring, x -> x.go(0, many))), 0, 0, 4, n, 4 * n, 8, 8, 0, n, over[n]);
        }
    }

    private static void goCall() {
        says("Promise 33", "A PLOUGH drives the next n (1 .. 50) DRIVES of its PART");
        // 58 DRIVES
        Town line = and(line(30, 50), plough(0, 10000), PloughDepot::round, PloughDepot::split);
        onlyFrom(line, 1, 50, (x, n) -> x.go(0, n));
        PloughDepot x = made(line);
        due(1, x.go(0, 1));
        due(50, x.go(0, 50));
        due(51, x.part(0, 2));
        due(7, x.go(0, 50));
        due(58, x.part(0, 2));
        due(58, x.part(0, 3));
        due(NO, x.go(0, 50));
        // of its PART: not of the next one's
        x = made(BUSY);
        due(3, x.go(0, 50));
        duePart(x, 0, 0, 4, 4, 8, 8, 8, 0, 0, 0);
        duePart(x, 1, 4, 1, 0, 0, 4, 500, 1, 0, 0);
        due(0, x.told(2, 2));

        says("Promise 33", "A CHANGE, if one or more");
        change(BUSY, 1, y -> y.go(0, 1));
        change(BUSY, 3, y -> y.go(0, 50));
        change(BUSY, 1, y -> y.go(1, 50));
    }

    private static void goUpToShut() {
        says("Promise 33", "up to the first whose STREET is SHUT now: how many.");
        // the next ones of PLOUGH 0 are STREETS 1, 3, 3
        PloughDepot x = made(and(BUSY, y -> y.shut(3, true)));
        due(1, x.go(0, 50));
        due(0, x.status());
        due(2, x.part(0, 2));
        due(0, x.go(0, 50));
        x.shut(3, false);
        due(2, x.go(0, 50));
        // an EMPTY one, too
        x = made(and(TWO, y -> y.go(0, 1), y -> y.shut(0, true)));
        due(0, x.go(0, 1));
        // STREETS behind those that are asked for may be SHUT
        x = made(and(BUSY, y -> y.shut(3, true)));
        due(1, x.go(0, 1));
        due(0, x.status());

        says("Promise 33", "0, if the first one's STREET is SHUT.");
        noChange(and(BUSY, y -> y.shut(1, true)), 0, y -> y.go(0, 1));
        noChange(and(BUSY, y -> y.shut(1, true)), 0, y -> y.go(0, 50));
        change(and(BUSY, y -> y.shut(3, true)), 1, y -> y.go(0, 50));
    }

    private static void goByDriftAsItIs() {
        says("Promise 33", "One that CLEARS asks MINUTES by DRIFT as it is: TOO DEEP: a FINDING DEEP, and it is driven as an EMPTY one");
        PloughDepot x = made(and(TWO, snowOf(400)));
        int trace = x.trace();
        due(1, x.go(0, 1));
        duePart(x, 0, 0, 2, 1, 4, 4, 4, 0, 1, 0);
        due(101, x.trace() - trace);
        due(0, x.findings(4));
        x = made(and(TWO, snowOf(401)));
        trace = x.trace();
        due(1, x.go(0, 1));
        due(0, x.status());
        dueFindings(x, 0, 0, 0, 0, 1);
        duePart(x, 0, 0, 2, 1, 2, 4, 4, 0, 0, 0);
        dueStreet(x, 0, 401, 0, 0, 1, 0, 0, 100, 0, 1);
        due(101, x.trace() - trace);
        // the EMPTY one behind it asks no PASSES, however deep it is
        due(1, x.go(0, 1));
        due(102, x.trace() - trace);
        dueFindings(x, 0, 0, 0, 0, 1);
        dueStreet(x, 0, 401, 0, 0, 1, 0, 0, 100, 0, 1);
        // two of them in one call: two FINDINGS
        x = made(and(line(2, 100), y -> y.sides(0, 2), plough(0, 100), PloughDepot::round, PloughDepot::split, snowOf(401)));
        due(2, x.go(0, 50));
        dueFindings(x, 0, 0, 0, 0, 2);
        due(0, x.told(0, 2));
    }

    private static void goClears() {
        says("Promise 33", "else CLEARED becomes 1 more, if it is below SIDES, and DRIFT is 0, if it is SIDES or more then.");
        PloughDepot x = made(and(TWO, snowOf(90), y -> y.go(0, 1)));
        dueStreet(x, 0, 0, 0, 1, 1, 0, 0, 100, 0, 1);
        // an EMPTY one clears nothing
        x = made(and(TWO, y -> y.go(0, 1), snowOf(90), y -> y.sides(0, 1)));
        due(1, x.go(0, 1));
        dueStreet(x, 0, 90, 0, 0, 1, 0, 0, 100, 0, 1);
        // one of two SIDES: DRIFT stays; the second one: it is 0
        Town both = and(line(2, 100), y -> y.sides(0, 2), plough(0, 100), PloughDepot::round, PloughDepot::split, snowOf(90));
        dueStreet(made(and(both, y -> y.go(0, 1))), 0, 90, 0, 1, 2, 0, 0, 100, 0, 1);
        dueStreet(made(and(both, y -> y.go(0, 2))), 0, 0, 0, 2, 2, 0, 0, 100, 0, 1);
        // SIDES that became more, or fewer, or none
        x = made(and(TWO, snowOf(90), y -> y.sides(0, 2), y -> y.go(0, 1)));
        dueStreet(x, 0, 90, 0, 1, 2, 0, 0, 100, 0, 1);
        x = made(and(both, y -> y.sides(0, 1), y -> y.go(0, 1)));
        dueStreet(x, 0, 0, 0, 1, 1, 0, 0, 100, 0, 1);
        x = made(and(both, y -> y.sides(0, 0), y -> y.go(0, 2)));
        dueStreet(x, 0, 0, 0, 0, 0, 0, 0, 100, 0, 1);
        // all SIDES were cleared: CLEARED is not more than they are, and new snow goes
        x = made(and(both, y -> y.go(0, 2), PloughDepot::round, PloughDepot::split, snowOf(70)));
        dueStreet(x, 0, 70, 0, 2, 2, 0, 0, 100, 0, 1);
        due(1, x.go(0, 1));
        dueStreet(x, 0, 0, 0, 2, 2, 0, 0, 100, 0, 1);
        // it stays GUESSED, if it was
        x = made(and(TWO, snowOf(90), y -> y.snow(0), y -> y.go(0, 1)));
        dueStreet(x, 0, 0, 1, 1, 1, 0, 0, 100, 0, 1);
    }

    private static void goRefusals() {
        says("Promise 33", "BAD; NULL; NO: its PART has no DRIVE left.");
        for (int p : new int[] {-1, 7, MIN, MAX}) {
            refused(BUSY, BAD, x -> x.go(p, 1));
        }
        for (int n : new int[] {0, 51, -1, MIN, MAX}) {
            refused(BUSY, BAD, x -> x.go(0, n));
            refused(BUSY, BAD, x -> x.go(6, n));
            refused(BUSY, BAD, x -> x.go(4, n));
        }
        refused(BUSY, NULL, x -> x.go(2, 1));
        refused(BUSY, NULL, x -> x.go(6, 50));
        refused(and(BUSY, x -> x.out(0)), NULL, x -> x.go(0, 1));
        // a PART of none; all are driven; no PART; none since another ROUND
        refused(BUSY, NO, x -> x.go(4, 1));
        refused(BUSY, NO, x -> x.go(5, 50));
        refused(and(BUSY, x -> x.go(0, 3)), NO, x -> x.go(0, 1));
        refused(and(BUSY, plough(0, 100)), NO, x -> x.go(7, 1));
        refused(and(BUSY, PloughDepot::round), NO, x -> x.go(0, 1));
        refused(and(EMPTY, plough(0, 100)), NO, x -> x.go(0, 1));
        refused(and(BUSY, x -> x.go(0, 3), x -> x.shut(3, true)), NO, x -> x.go(0, 1));
    }

    private static void looksCall() {
        says("Promise 34", "How many DRIVES go() looked at (driven, or SHUT) ever; undo() takes none back.");
        PloughDepot x = made(BUSY);
        due(1, x.looks());
        x.shut(1, true);
        due(0, x.go(0, 50));
        due(2, x.looks());
        x.shut(1, false);
        due(1, x.go(0, 1));
        due(3, x.looks());
        x.shut(3, true);
        due(1, x.undo());
        due(2, x.go(0, 50));
        due(5, x.looks());
        due(1, x.undo());
        due(5, x.looks());
        x.shut(3, true);
        due(0, x.go(0, 50));
        due(6, x.looks());
        // driven and SHUT in one call; refused ones look at none
        x = made(and(BUSY, y -> y.shut(3, true)));
        due(1, x.go(0, 50));
        due(3, x.looks());
        due(NO, x.go(4, 1));
        due(BAD, x.go(0, 0));
        due(NULL, x.go(6, 1));
        due(3, x.looks());
        due(0, new PloughDepot().looks());
        // the one that is SHUT behind the n that are asked for is not looked at
        x = made(and(BUSY, y -> y.shut(3, true)));
        due(1, x.go(0, 1));
        due(2, x.looks());
    }

    private static void textCall() {
        says("Promise 35", "for each DRIVE + (CLEARS) or - , the STREET's number");
        dueText("", new PloughDepot());
        dueText("", made(line(3, 10)));
        dueText("+0+1-1-0", made(and(line(3, 10), PloughDepot::round)));
        noChange(BUSY, 12, PloughDepot::text);
        // 9, 10, 99, 100, 149
        Town many = and(crossings(2), x -> {
            for (int s = 0; s < 150; s++) {
                x.street(0, 1, 5, false);
                x.shut(s, s != 9 && s != 10 && s != 99 && s != 100 && s != 148 && s != 149);
            }
            return x.round();
        });
        dueText("+9+10+99+100+148+149", made(many));
        noChange(and(many, PloughDepot::text), 20, PloughDepot::text);
    }

    private static void textLetters() {
        says("Promise 35", "behind the last one of a PLOUGH's PART its letter (A for 0)");
        dueText("+0+1+3+3A+2B", made(BUSY));
        dueText("+0+1+2+3A", split(RING, plough(0, 8)));
        dueText("+0A+1+2+3C", split(RING, plough(0, 2), plough(0, 1), plough(0, 6)));
        // A for 0, and L for 11; one DRIVE each
        PloughDepot x = made(and(ring(12, 100, false), PloughDepot::round));
        for (int p = 0; p < 12; p++) {
            x.plough(0, 3);
        }
        dueText("+0+1+2+3+4+5+6+7+8+9+10+11", x);
        x.split();
        dueText("+0A+1B+2C+3D+4E+5F+6G+7H+8I+9J+10K+11L", x);
        // who is OUT has no PART, nor has any behind another ROUND; what is driven has its letter still
        x.out(11);
        x.go(0, 1);
        dueText("+0A+1B+2C+3D+4E+5F+6G+7H+8I+9J+10K+11", x);
        x.round();
        dueText("+0+1+2+3+4+5+6+7+8+9+10+11", x);
        // PARTS of no DRIVES have no last one: ahead of the first DRIVE, between two, behind the last
        x = split(RING, plough(0, 1), plough(0, 4), plough(0, 1), plough(0, 4), plough(0, 4));
        dueText("+0+1B+2+3D", x);
    }

    private static void longTexts() {
        says("Promise 35", "8000 signs at most");
        // 1240 DRIVES of three digits, in 12 PARTS: 4960 signs and 12 letters
        PloughDepot x = made(crossings(20));
        for (int s = 0; s < 100; s++) {
            x.street(0, 2, 1, false);
            x.shut(s, true);
        }
        for (int c = 1; c < 20; c++) {
            x.sides(x.street(c, (c + 1) % 20, 1, true), 0);
        }
        for (int k = 0; k < 31; k++) {
            x.sides(x.street(0, 1, 1, true), 2);
        }
        for (int p = 0; p < 12; p++) {
            x.plough(0, p < 11 ? 104 : 10000);
        }
        due(1240, x.round());
        due(4960, x.text());
        due(1, x.split());
        due(4972, x.text());
        due('+', x.sign(0));
        due('1', x.sign(1));
        due('L', x.sign(4971));
        due('8', x.sign(4970));
        due('A', x.sign(4 * 104));
        due(NONE, x.sign(4972));
    }

    private static void signCall() {
        says("Promise 36", "Sign i of the latest text(); NONE: none such.");
        String want = "+0+1+3+3A+2B";
        for (int i = 0; i < want.length(); i++) {
            due(want.charAt(i), made(BUSY).sign(i));
        }
        for (int i : new int[] {-1, want.length(), 8000, MIN, MAX}) {
            due(NONE, made(BUSY).sign(i));
        }
        due(NONE, new PloughDepot().sign(0));
        due(NONE, made(RING).sign(0));
        // the latest one: it stays through a CHANGE and an undo() until text() is called
        PloughDepot x = made(and(BUSY, y -> y.shut(0, true), PloughDepot::round, y -> y.undo()));
        due('A', x.sign(8));
        x = made(and(BUSY, y -> y.sides(3, 0), PloughDepot::round));
        due('B', x.sign(11));
        due(6, x.text());
        due('2', x.sign(5));
        due(NONE, x.sign(6));
        due(1, x.undo());
        due(NONE, x.sign(6));
        due(12, x.text());
        due('B', x.sign(11));
        // of a text of no signs
        x = made(and(BUSY, y -> y.shut(0, true), y -> y.shut(1, true), y -> y.shut(2, true), y -> y.shut(3, true), PloughDepot::round));
        due(0, x.text());
        due(NONE, x.sign(0));
    }
}
