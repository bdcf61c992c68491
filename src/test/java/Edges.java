/**
 * What the tests of edges share. Each check stands behind says(), with the words of the document that it is about.
 * A town is a run of calls on a new object: it is made anew for each look at it, so that no object comes near its 512th call.
 */
abstract class Edges {
    static final int NONE = -1, BAD = -2, FULL = -3, NULL = -4, INDEX = -5, CAST = -6, SIZE = -7, NO = -8, DEEP = -9;
    static final int MIN = Integer.MIN_VALUE, MAX = Integer.MAX_VALUE;

    interface Town {
        void build(PloughDepot x);
    }

    interface Call {
        int on(PloughDepot x);
    }

    interface NumberCall {
        int on(PloughDepot x, int n);
    }

    private static int wrong = 0;
    private static int asked = 0;
    private static int sentences = 0;
    private static String words = "";

    /** The words of the document that the checks behind it hold the class to. */
    static void says(String place, String text) {
        sentences++;
        words = place + ": " + text;
    }

    static void due(long want, long got) {
        asked++;
        if (got != want) {
            fault("answered " + got + ", due is " + want);
        }
    }

    static void dueAll(String what, String want, String got) {
        asked++;
        if (!got.equals(want)) {
            fault(what + "\n    is     " + got + "\n    due is " + want);
        }
    }

    private static void fault(String what) {
        wrong++;
        System.out.println("[" + words + "] line " + lineOfTheTest() + ": " + what);
    }

    private static int lineOfTheTest() {
        for (StackTraceElement frame : Thread.currentThread().getStackTrace()) {
            if (frame.getClassName().endsWith("EdgesTest")) {
                return frame.getLineNumber();
            }
        }
        return 0;
    }

    static void end() {
        System.out.println(wrong == 0 ? sentences + " sentences hold, by " + asked + " answers" : wrong + " answers are not as due");
        if (wrong != 0) {
            System.exit(1);
        }
    }

    static PloughDepot made(Town town) {
        PloughDepot x = new PloughDepot();
        town.build(x);
        return x;
    }

    static Town and(Town town, Call... calls) {
        return x -> {
            town.build(x);
            for (Call call : calls) {
                call.on(x);
            }
        };
    }

    // ---- calls that are refused, that are CHANGES, that are none

    /** The call answers why, STATUS tells it, it is a FINDING if it is of those, and nothing else has changed: undo() neither. */
    static void refused(Town town, int why, Call call) {
        PloughDepot x = made(town);
        PloughDepot y = made(town);
        due(why, call.on(x));
        due(why, x.status());
        for (int kind = 0; kind < 5; kind++) {
            due(y.findings(kind) + (kind == kindOf(why) ? 1 : 0), x.findings(kind));
        }
        if (why != DEEP) {
            due(y.trace(), x.trace());
        }
        due(y.looks(), x.looks());
        dueAll("what a refused call left", all(y), all(x));
        dueUndone(town, call);
    }

    private static int kindOf(int why) {
        return why == DEEP ? 4 : why <= NULL && why >= SIZE ? NULL - why : NONE;
    }

    /** The call is no CHANGE: undo() behind it does what it would have done ahead of it. */
    private static void dueUndone(Town town, Call call) {
        PloughDepot x = made(and(town, call));
        PloughDepot y = made(town);
        due(y.undo(), x.undo());
        dueAll("what undo() left behind it", all(y), all(x));
    }

    /** The call is a CHANGE: undo() gives back what was ahead of it, and nothing more. */
    static void change(Town town, int answer, Call call) {
        PloughDepot x = made(town);
        due(answer, call.on(x));
        due(0, x.status());
        due(1, x.undo());
        due(0, x.status());
        dueAll("what undo() gave back", all(made(town)), all(x));
        x = made(and(town, call, PloughDepot::undo));
        due(0, x.undo());
        dueAll("what a second undo() left", all(made(town)), all(x));
    }

    /** The call is not refused, changes nothing, and is no CHANGE. */
    static void noChange(Town town, int answer, Call call) {
        PloughDepot x = made(town);
        due(answer, call.on(x));
        due(0, x.status());
        dueAll("what a call that changes nothing left", all(made(town)), all(x));
        dueUndone(town, call);
    }

    /** The call is taken with the numbers low and high, and answers BAD to those just outside them and to the farthest ones. */
    static void onlyFrom(Town town, int low, int high, NumberCall call) {
        for (int n : new int[] {low, high}) {
            PloughDepot x = made(town);
            call.on(x, n);
            due(0, x.status());
        }
        for (int n : new int[] {low - 1, high + 1, MIN, MAX}) {
            refused(town, BAD, x -> call.on(x, n));
        }
    }

    /** All that can be asked and that undo() gives back, and the latest text; in a large town by digest() alone. */
    static String all(PloughDepot x) {
        StringBuilder s = new StringBuilder();
        for (int i = 0; x.sign(i) != NONE; i++) {
            s.append((char) x.sign(i));
        }
        for (int what = 0; what < 4; what++) {
            s.append(" count ").append(x.count(what));
        }
        for (int what = 0; what < 7; what++) {
            s.append(" length ").append(x.length(what));
        }
        s.append(" digest ").append(x.digest());
        if (x.count(0) <= 8 && x.count(1) <= 9 && x.length(0) <= 16) {
            everyDetail(x, s);
        }
        return s.toString();
    }

    private static void everyDetail(PloughDepot x, StringBuilder s) {
        for (int c = 0; c < x.count(0); c++) {
            s.append("\n      crossing ").append(c).append(" partner ").append(x.partner(c)).append(" ways");
            for (int d = 0; d < x.count(0); d++) {
                s.append(' ').append(x.way(c, d));
            }
        }
        table(s, "street", x.count(1), 9, x::told);
        table(s, "plough", x.count(3), 9, x::part);
        table(s, "drive", x.length(0), 4, x::at);
        table(s, "gauge", x.count(2), 5, x::read);
        s.append("\n      odd");
        for (int i = 0; i < x.count(0); i++) {
            s.append(' ').append(x.odd(i));
        }
    }

    private interface Cell {
        int at(int row, int column);
    }

    private static void table(StringBuilder s, String name, int rows, int columns, Cell cell) {
        for (int row = 0; row < rows; row++) {
            s.append("\n      ").append(name).append(' ').append(row).append(':');
            for (int column = 0; column < columns; column++) {
                s.append(' ').append(cell.at(row, column));
            }
        }
    }

    // ---- towns

    /** Nothing is there. */
    static final Town EMPTY = x -> { };

    /** So many CROSSINGS and no STREETS. */
    static Town crossings(int many) {
        return x -> {
            for (int left = many; left > 0; left -= 20) {
                x.crossings(Math.min(20, left));
            }
        };
    }

    /** CROSSINGS 0 - 1 - 2 - .., STREET i from i to i + 1. */
    static Town line(int many, int length) {
        return and(crossings(many), x -> {
            for (int c = 0; c + 1 < many; c++) {
                x.street(c, c + 1, length, false);
            }
            return 0;
        });
    }

    /** CROSSINGS in a ring, STREET i from i to the next one. */
    static Town ring(int many, int length, boolean oneWay) {
        return and(crossings(many), x -> {
            for (int c = 0; c < many; c++) {
                x.street(c, (c + 1) % many, length, oneWay);
            }
            return 0;
        });
    }

    /** THE DEPOT and so many CROSSINGS about it, STREET i from THE DEPOT to i + 1. */
    static Town star(int arms, int length) {
        return and(crossings(arms + 1), x -> {
            for (int c = 1; c <= arms; c++) {
                x.street(0, c, length, false);
            }
            return 0;
        });
    }

    /**
     * A town that has something of all: STREET 4 is SHUT and ONE WAY, CROSSING 5 is joined to nothing; GAUGE 0 of FLOATS, GAUGE 1 of
     * SHORTS, GAUGE 2 MISSING, GAUGE 3 of no HOURS; PLOUGHS 2, 3 are OUT as the PAIR 4, PLOUGH 6 is OUT; PLOUGH 0 has driven one of its
     * four DRIVES. The latest CHANGE can be seen: 7 CROSSINGS were 6.
     */
    static final Town BUSY = x -> {
        x.crossings(6);
        x.street(0, 1, 100, false);
        x.street(1, 2, 90, false);
        x.street(2, 0, 120, false);
        x.street(2, 3, 60, false);
        x.street(3, 4, 70, true);
        x.shut(4, true);
        x.sides(3, 2);
        x.gauge(0, false);
        x.row(0, 4);
        x.reading(0, 0, 160);
        x.gauge(2, true);
        x.row(1, 4);
        x.reading(1, 0, 150);
        x.none(1, 1, 0);
        x.gauge(3, false);
        x.gauge(1, true);
        x.row(3, 0);
        x.snow(0);
        x.plough(0, 8);
        x.plough(1, 500);
        x.plough(2, 100);
        x.plough(3, 100);
        x.pair(2, 3, 300);
        x.plough(2, 200);
        x.plough(0, 50);
        x.out(6);
        x.round();
        x.split();
        x.go(0, 1);
        x.text();
        x.crossings(1);
    };

    /** All that may be there: 60 CROSSINGS, 150 STREETS, 20 GAUGES of 200 HOURS (those of even numbers of FLOATS), 12 PLOUGHS. */
    static final Town ALL_FULL = and(crossings(60), x -> {
        for (int s = 0; s < 150; s++) {
            x.street(s % 60, (s + 1) % 60, 10000, false);
        }
        for (int g = 0; g < 20; g++) {
            x.gauge(40 + g, g % 2 == 1);
            x.row(g, 200);
        }
        for (int p = 0; p < 12; p++) {
            x.plough(p % 4, 10000);
        }
        return 0;
    });

    // ---- what is asked often

    /** The DRIFT of STREET s becomes so many tenths more, by a new GAUGE at THE DEPOT; other STREETS near it have as much. */
    static void snowOn(PloughDepot x, int tenths) {
        int gauge = x.gauge(0, true);
        x.row(gauge, 1);
        x.reading(gauge, 0, tenths);
        x.snow(0);
        x.lose(gauge);
    }

    static Call snowOf(int tenths) {
        return x -> {
            snowOn(x, tenths);
            return 0;
        };
    }

    /** THE ROUND as text() writes it, without letters; it must be one DRIVE behind the other, from THE DEPOT and back. */
    static void dueRound(String want, PloughDepot x) {
        StringBuilder got = new StringBuilder();
        int place = 0;
        for (int i = 0; i < x.length(0); i++) {
            got.append(x.at(i, 1) == place ? "" : "?").append(x.at(i, 3) == 1 ? '+' : '-').append(x.at(i, 0));
            place = x.at(i, 2);
        }
        dueAll("THE ROUND", want, got.append(place == 0 ? "" : "?").toString());
    }

    static void dueText(String want, PloughDepot x) {
        StringBuilder got = new StringBuilder();
        int signs = x.text();
        for (int i = 0; i < signs; i++) {
            got.append((char) x.sign(i));
        }
        dueAll("the text", want, got.toString());
        due(NONE, x.sign(signs));
    }

    /** part() 0 to 8. */
    static void duePart(PloughDepot x, int plough, int... want) {
        for (int what = 0; what < 9; what++) {
            due(want[what], x.part(plough, what));
        }
    }

    /** told() 0 to 8. */
    static void dueStreet(PloughDepot x, int street, int... want) {
        for (int what = 0; what < 9; what++) {
            due(want[what], x.told(street, what));
        }
    }

    static void dueFindings(PloughDepot x, int... want) {
        for (int kind = 0; kind < 5; kind++) {
            due(want[kind], x.findings(kind));
        }
    }
}
