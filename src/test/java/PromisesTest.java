/** For each promise of the document ordinary inputs, the edges that it names, and wrong inputs; all answers are worked out by hand. */
public final class PromisesTest {
    private static final int NONE = -1, BAD = -2, FULL = -3, NULL = -4, INDEX = -5, CAST = -6, SIZE = -7, NO = -8, DEEP = -9;
    private static int wrong = 0;
    private static String promise = "";
    private static int asked = 0;

    private static void due(long want, long got) {
        asked++;
        if (got != want) {
            wrong++;
            System.out.println("promise " + promise + ", question " + asked + ": answered " + got + ", due is " + want + " (line "
                + Thread.currentThread().getStackTrace()[2].getLineNumber() + ")");
        }
    }

    private static void promise(int number) {
        promise = Integer.toString(number);
        asked = 0;
    }

    /** A town of so many crossings and no streets. */
    private static PloughDepot town(int crossings) {
        PloughDepot x = new PloughDepot();
        for (int left = crossings; left > 0; left -= 20) {
            x.crossings(Math.min(20, left));
        }
        return x;
    }

    /** Crossings 0 - 1 - 2 - .. in a line, each street both ways and as long as told. */
    private static PloughDepot line(int crossings, int length) {
        PloughDepot x = town(crossings);
        for (int c = 0; c + 1 < crossings; c++) {
            x.street(c, c + 1, length, false);
        }
        return x;
    }

    /** Crossings in a ring, street i from i to i + 1. */
    private static PloughDepot ring(int crossings, int length, boolean oneWay) {
        PloughDepot x = town(crossings);
        for (int c = 0; c < crossings; c++) {
            x.street(c, (c + 1) % crossings, length, oneWay);
        }
        return x;
    }

    /** All drifts become so many tenths; the gauge stands at crossing 0, so only streets there are told of. */
    private static void drift(PloughDepot x, int tenths) {
        int gauge = x.gauge(0, true);
        x.row(gauge, 1);
        x.reading(gauge, 0, tenths);
        x.snow(0);
    }

    private static String textOf(PloughDepot x) {
        StringBuilder text = new StringBuilder();
        int signs = x.text();
        for (int i = 0; i < signs; i++) {
            text.append((char) x.sign(i));
        }
        return text.toString();
    }

    private static void dueText(String want, PloughDepot x) {
        String got = textOf(x);
        asked++;
        if (!got.equals(want)) {
            wrong++;
            System.out.println("promise " + promise + ", question " + asked + ": text " + got + ", due is " + want + " (line "
                + Thread.currentThread().getStackTrace()[2].getLineNumber() + ")");
        }
    }

    /** The streets of THE ROUND with + or -, as text() writes them without letters. */
    private static void dueRound(String want, PloughDepot x) {
        StringBuilder got = new StringBuilder();
        int drives = x.length(0);
        int place = 0;
        boolean joined = true;
        for (int i = 0; i < drives; i++) {
            got.append(x.at(i, 3) == 1 ? '+' : '-').append(x.at(i, 0));
            joined &= x.at(i, 1) == place;
            place = x.at(i, 2);
        }
        asked++;
        if (!got.toString().equals(want) || !joined || place != 0) {
            wrong++;
            System.out.println("promise " + promise + ", question " + asked + ": round " + got + (joined && place == 0 ? "" : " (broken)")
                + ", due is " + want + " (line " + Thread.currentThread().getStackTrace()[2].getLineNumber() + ")");
        }
    }

    public static void main(String[] args) {
        newObject();
        theMap();
        theWays();
        gaugesAndRows();
        copying();
        snowing();
        melting();
        ploughs();
        asking();
        salting();
        oddAndLeast();
        roundsByA();
        roundsByB();
        roundsAtTheirLimits();
        factsOfTheRound();
        splitting();
        going();
        texts();
        digests();
        undoing();
        findingsAndStatus();
        tracing();
        counting();
        System.out.println(wrong == 0 ? "all promises are kept" : wrong + " answers are not as due");
        if (wrong != 0) {
            System.exit(1);
        }
    }

    private static void newObject() {
        promise(1);
        PloughDepot x = new PloughDepot();
        due(0, x.status());
        for (int what = 0; what < 4; what++) {
            due(0, x.count(what));
        }
        for (int kind = 0; kind < 5; kind++) {
            due(0, x.findings(kind));
        }
        for (int what = 0; what < 7; what++) {
            due(0, x.length(what));
        }
        due(0, x.status());
        due(0, x.trace());
        due(0, x.looks());
        due(0, x.undo());
        due(NONE, x.sign(0));
        due(NONE, x.at(0, 0));
        due(217, x.digest());
        due(BAD, x.told(0, 0));
        due(BAD, x.part(0, 0));
        due(BAD, x.way(0, 0));
        due(BAD, x.partner(0));
        due(NONE, x.odd(0));
        due(0, x.least(0));
        due(1, x.split());
        due(0, x.text());
    }

    private static void theMap() {
        promise(2);
        PloughDepot x = new PloughDepot();
        due(BAD, x.crossings(0));
        due(BAD, x.crossings(21));
        due(BAD, x.crossings(-1));
        due(BAD, x.crossings(Integer.MAX_VALUE));
        due(0, x.count(0));
        due(1, x.crossings(1));
        due(21, x.crossings(20));
        due(41, x.crossings(20));
        due(FULL, x.crossings(20));
        due(FULL, x.status());
        due(BAD, x.crossings(21));
        due(60, x.crossings(19));
        due(FULL, x.crossings(1));
        due(60, x.count(0));

        promise(3);
        x = town(3);
        due(BAD, x.street(0, 0, 5, false));
        due(BAD, x.street(0, 3, 5, false));
        due(BAD, x.street(3, 0, 5, false));
        due(BAD, x.street(-1, 0, 5, false));
        due(BAD, x.street(0, -1, 5, false));
        due(BAD, x.street(0, 1, 0, false));
        due(BAD, x.street(0, 1, 10001, false));
        due(0, x.count(1));
        due(0, x.street(0, 1, 1, false));
        due(1, x.street(2, 0, 10000, true));
        int[] want = {0, 0, 0, 1, 0, 1, 10000, 2, 0};
        for (int what = 0; what < 9; what++) {
            due(want[what], x.told(1, what));
        }
        for (int s = 2; s < 150; s++) {
            due(s, x.street(0, 1, 7, false));
        }
        due(FULL, x.street(0, 1, 7, false));
        due(BAD, x.street(0, 1, 0, false));
        due(150, x.count(1));

        promise(4);
        x = line(3, 10);
        due(0, x.oneWay(0, true));
        due(1, x.told(0, 5));
        due(1, x.oneWay(0, true));
        due(NO, x.way(1, 0));
        due(1, x.oneWay(0, false));
        due(10, x.way(1, 0));
        due(BAD, x.oneWay(2, true));
        due(BAD, x.oneWay(-1, true));

        promise(5);
        due(0, x.shut(1, true));
        due(1, x.told(1, 4));
        due(NO, x.way(0, 2));
        due(1, x.shut(1, false));
        due(20, x.way(0, 2));
        due(0, x.shut(1, false));
        due(BAD, x.shut(2, true));
        due(BAD, x.shut(Integer.MIN_VALUE, true));

        promise(6);
        due(1, x.sides(0, 2));
        due(2, x.sides(0, 0));
        due(0, x.sides(0, 1));
        due(BAD, x.sides(0, 3));
        due(BAD, x.sides(0, -1));
        due(BAD, x.sides(2, 1));
        due(1, x.told(0, 3));
        x.plough(0, 1000);
        x.round();
        x.split();
        due(1, x.go(0, 1));
        due(1, x.told(0, 2));
        due(BAD, x.sides(0, 3));
        due(1, x.told(0, 2));
        due(1, x.sides(0, 1));
        due(0, x.told(0, 2));

        promise(7);
        due(BAD, x.told(0, 9));
        due(BAD, x.told(0, -1));
        due(BAD, x.told(2, 0));
        due(BAD, x.told(-1, 0));
        due(BAD, x.status());
        due(1, x.told(1, 7));
        due(2, x.told(1, 8));
        due(0, x.status());
    }

    private static void theWays() {
        promise(8);
        PloughDepot x = town(5);
        x.street(0, 2, 5, false);
        x.street(0, 1, 5, false);
        x.street(2, 3, 5, false);
        x.street(1, 3, 5, false);
        x.street(1, 3, 5, false);
        x.street(0, 3, 11, false);
        due(10, x.way(0, 3));
        due(0, x.way(3, 3));
        due(NO, x.way(0, 4));
        due(NO, x.status());
        due(0, x.way(4, 4));
        due(BAD, x.way(0, 5));
        due(BAD, x.way(-1, 0));
        x.street(3, 4, 7, true);
        due(17, x.way(0, 4));
        due(NO, x.way(4, 0));

        promise(9);
        // by crossing 1, though street 0 leads to 2 by a lesser number, and by the lesser one of the two
        due(1, x.wayAt(0, 3, 0));
        due(3, x.wayAt(0, 3, 1));
        due(NONE, x.wayAt(0, 3, 2));
        due(0, x.status());
        due(NONE, x.wayAt(0, 3, -1));
        due(NONE, x.wayAt(0, 3, Integer.MAX_VALUE));
        due(NONE, x.wayAt(2, 2, 0));
        due(NO, x.wayAt(4, 0, 0));
        due(NO, x.wayAt(4, 0, -5));
        due(BAD, x.wayAt(0, 5, 0));
        due(BAD, x.wayAt(-1, 0, 0));
        // a shorter street of a greater number is taken
        x.street(0, 1, 4, false);
        due(9, x.way(0, 3));
        due(7, x.wayAt(0, 3, 0));
        // back: from 3 to the least next crossing 1
        due(3, x.wayAt(3, 0, 0));
        due(7, x.wayAt(3, 0, 1));
        x.shut(7, true);
        due(10, x.way(0, 3));
        x.oneWay(3, true);
        due(4, x.wayAt(3, 0, 0));
    }

    private static void gaugesAndRows() {
        promise(10);
        PloughDepot x = town(2);
        due(BAD, x.gauge(2, true));
        due(BAD, x.gauge(-1, true));
        due(0, x.gauge(0, true));
        due(1, x.gauge(1, false));
        due(NULL, x.read(1, 0));
        for (int g = 2; g < 20; g++) {
            due(g, x.gauge(0, false));
        }
        due(FULL, x.gauge(0, false));
        due(BAD, x.gauge(2, false));
        due(20, x.count(2));

        promise(11);
        due(BAD, x.row(20, 1));
        due(BAD, x.row(-1, 1));
        due(BAD, x.row(0, 201));
        due(SIZE, x.row(0, -1));
        due(BAD, x.row(20, -1));
        due(1, x.findings(3));
        due(1, x.row(0, 200));
        due(0, x.read(0, 199));
        due(INDEX, x.read(0, 200));
        x.reading(0, 3, 77);
        due(77, x.read(0, 3));
        due(1, x.row(0, 4));
        due(0, x.read(0, 3));
        due(INDEX, x.read(0, 4));
        due(1, x.row(0, 0));
        due(INDEX, x.read(0, 0));

        promise(12);
        due(1, x.lose(0));
        due(0, x.lose(0));
        due(0, x.lose(1));
        due(BAD, x.lose(20));
        due(BAD, x.lose(-1));
        due(NULL, x.read(0, 0));

        promise(13);
        x = town(1);
        x.gauge(0, false);
        x.gauge(0, true);
        due(NULL, x.reading(0, 0, 1));
        x.row(0, 2);
        x.row(1, 2);
        due(BAD, x.reading(2, 0, 1));
        due(BAD, x.reading(-1, 0, 1));
        due(INDEX, x.reading(0, 2, 1));
        due(INDEX, x.reading(0, -1, 1));
        due(1, x.reading(0, 0, 20));
        due(25, x.read(0, 0));
        due(1, x.reading(0, 0, 1));
        due(1, x.read(0, 0));
        due(1, x.reading(1, 0, 65536 + 9));
        due(9, x.read(1, 0));
        due(1, x.reading(1, 0, 32766));
        due(32766, x.read(1, 0));
        due(1, x.reading(1, 0, 32768));
        due(NONE, x.read(1, 0));
        due(1, x.reading(1, 0, 32767));
        due(NONE, x.read(1, 0));
        due(1, x.reading(1, 0, 40000));
        due(0, x.read(1, 0));

        promise(14);
        due(1, x.none(0, 0, 0));
        due(NONE, x.read(0, 0));
        due(1, x.none(0, 1, 1));
        due(NONE, x.read(0, 1));
        due(1, x.none(1, 1, 1));
        due(NONE, x.read(1, 1));
        due(1, x.none(1, 1, 0));
        due(NONE, x.read(1, 1));
        due(BAD, x.none(0, 0, 2));
        due(BAD, x.none(0, 0, -1));
        due(BAD, x.none(2, 0, 0));
        due(INDEX, x.none(0, 2, 0));
        due(INDEX, x.none(0, -1, 0));
        x.lose(0);
        due(NULL, x.none(0, 0, 0));
        due(BAD, x.none(0, 0, 2));

        promise(15);
        x.row(0, 3);
        due(0, x.read(0, 0));
        x.reading(0, 0, -800);
        due(0, x.read(0, 0));
        x.reading(0, 0, 80000);
        due(100000, x.read(0, 0));
        x.reading(0, 0, 79999);
        due(99998, x.read(0, 0));
        x.reading(0, 0, Integer.MAX_VALUE);
        due(100000, x.read(0, 0));
        x.reading(0, 0, Integer.MIN_VALUE);
        due(0, x.read(0, 0));
        due(INDEX, x.read(0, 3));
        due(INDEX, x.read(0, -1));
        due(BAD, x.read(2, 0));
        due(BAD, x.read(-1, 0));
        for (int v = 0; v < 400; v++) {
            x.reading(1, 0, v);
            due((int) ((float) v / 10f * 10f), x.read(1, 0));
        }
    }

    private static void copying() {
        promise(16);
        PloughDepot x = town(1);
        x.gauge(0, true);
        x.gauge(0, true);
        x.gauge(0, false);
        due(NULL, x.copy(0, 0, 1, 0, 0));
        x.row(0, 5);
        due(NULL, x.copy(0, 0, 1, 0, 0));
        due(NULL, x.copy(1, 0, 0, 0, 0));
        due(3, x.findings(0));
        x.row(1, 3);
        x.row(2, 3);
        for (int h = 0; h < 5; h++) {
            x.reading(0, h, 10 + h);
        }
        due(BAD, x.copy(0, 0, 2, 0, 1));
        due(BAD, x.copy(2, 0, 0, 0, 1));
        due(BAD, x.copy(0, 0, 3, 0, 1));
        due(BAD, x.copy(2, 0, 3, 0, 1));
        due(BAD, x.copy(3, 0, 2, 0, 1));
        due(BAD, x.copy(-1, 0, 0, 0, 1));
        due(INDEX, x.copy(0, -1, 1, 0, 1));
        due(INDEX, x.copy(0, 0, 1, -1, 1));
        due(INDEX, x.copy(0, 0, 1, 0, -1));
        due(INDEX, x.copy(0, 3, 1, 0, 3));
        due(INDEX, x.copy(0, 0, 1, 1, 3));
        due(INDEX, x.copy(0, 6, 1, 0, 0));
        due(INDEX, x.copy(0, Integer.MAX_VALUE, 1, 0, Integer.MAX_VALUE));
        due(INDEX, x.copy(0, 1, 1, 0, Integer.MAX_VALUE));
        due(1, x.copy(0, 5, 1, 3, 0));
        due(1, x.copy(0, 2, 1, 0, 3));
        due(12, x.read(1, 0));
        due(14, x.read(1, 2));
        // both within the same row, either way: as they were ahead of it
        due(1, x.copy(0, 0, 0, 1, 4));
        due(10, x.read(0, 0));
        due(10, x.read(0, 1));
        due(11, x.read(0, 2));
        due(13, x.read(0, 4));
        due(1, x.copy(0, 1, 0, 0, 4));
        due(10, x.read(0, 0));
        due(11, x.read(0, 1));
        due(13, x.read(0, 3));
        due(13, x.read(0, 4));
        x.none(0, 0, 1);
        due(1, x.copy(0, 0, 1, 1, 1));
        due(NONE, x.read(1, 1));

        promise(17);
        x = town(1);
        due(0, x.copies(0, 0, 1));
        due(0, x.status());
        for (int g = 0; g < 4; g++) {
            x.gauge(0, g == 1);
            x.row(g, 4);
            x.reading(g, 0, 8 * (g + 1));
        }
        due(4, x.copies(0, 2, 2));
        due(0, x.status());
        due(10, x.read(0, 2));
        due(16, x.read(1, 2));
        due(40, x.read(3, 2));
        x.row(2, 2);
        due(2, x.copies(0, 3, 1));
        due(INDEX, x.status());
        due(1, x.findings(1));
        due(10, x.read(0, 3));
        due(0, x.read(3, 3));
        due(1, x.undo());
        due(0, x.read(0, 3));
        x.lose(0);
        due(0, x.copies(0, 0, 0));
        due(NULL, x.status());
        due(1, x.findings(0));
        due(1, x.undo());
        due(0, x.copies(-1, 0, 0));
        due(INDEX, x.status());
        due(0, x.copies(0, 0, -1));
        due(0, x.undo());
        due(3 + 1, x.copies(1, 0, 1));
    }

    private static void snowing() {
        promise(18);
        // 0 - 1 - 2 - 3 - 4, a gauge at 0
        PloughDepot x = line(5, 10);
        due(BAD, x.snow(-1));
        due(BAD, x.snow(200));
        due(BAD, x.status());
        due(0, x.snow(0));
        due(1, x.told(0, 1));
        x.gauge(0, true);
        x.row(0, 1);
        x.reading(0, 0, 70);
        due(2, x.snow(0));
        due(70, x.told(0, 0));
        due(70, x.told(1, 0));
        due(0, x.told(2, 0));
        due(0, x.told(0, 1));
        due(0, x.told(1, 1));
        due(1, x.told(2, 1));
        // a second one at 2: street 0 has k 2 and 1, street 1 has 1 and 2, streets 2 has 2, street 3 has 1 (by street 2 to 3)
        x.gauge(2, false);
        x.row(1, 1);
        x.reading(1, 0, 80);
        due(4, x.snow(0));
        due(70 + 80, x.told(0, 0));
        due(70 + 90, x.told(1, 0));
        due(100, x.told(2, 0));
        due(100, x.told(3, 0));
        // a shut street joins nothing, but is snowed on
        x.shut(2, true);
        due(3, x.snow(0));
        due(200, x.told(2, 0));
        due(100, x.told(3, 0));
        due(1, x.told(3, 1));
        // one way or not is the same
        x.shut(2, false);
        x.oneWay(2, true);
        due(4, x.snow(0));
        // what tells nothing; what is missing and what is not so long are findings, and still the status is 0
        x.none(0, 0, 0);
        x.none(1, 0, 1);
        due(0, x.snow(0));
        due(0, x.status());
        due(0, x.findings(0) + x.findings(1));
        x.lose(0);
        due(0, x.snow(0));
        due(1, x.findings(0));
        due(0, x.findings(1));
        due(0, x.status());
        due(0, x.snow(1));
        due(2, x.findings(0));
        due(1, x.findings(1));
        due(0, x.status());
        // 100000 at most, once and together
        x = line(2, 10);
        x.gauge(0, false);
        x.row(0, 200);
        x.reading(0, 199, Integer.MAX_VALUE);
        x.reading(0, 0, 40000);
        due(1, x.snow(0));
        due(50000, x.told(0, 0));
        due(1, x.snow(199));
        due(100000, x.told(0, 0));
        x.reading(0, 0, -5);
        due(1, x.snow(0));
        due(100000, x.told(0, 0));
        x = line(2, 10);
        x.gauge(0, false);
        x.row(0, 1);
        x.reading(0, 0, Integer.MAX_VALUE);
        x.snow(0);
        due(100000, x.told(0, 0));
        // floats: 3 and 4 tenths with k 2 each, as floats go
        x = line(2, 10);
        x.gauge(0, true);
        x.gauge(1, true);
        x.row(0, 1);
        x.row(1, 1);
        x.reading(0, 0, 3);
        x.reading(1, 0, 4);
        x.snow(0);
        due((int) ((3 / 10f * 2 + 4 / 10f * 2) / 4f * 10f), x.told(0, 0));
        // NEAR by a street to the depot, whichever end of either it is
        x = town(4);
        x.street(0, 1, 5, false);
        x.street(1, 0, 5, false);
        x.street(2, 0, 5, false);
        x.street(3, 1, 5, false);
        x.gauge(2, true);
        x.row(0, 1);
        x.reading(0, 0, 60);
        due(3, x.snow(0));
        due(60, x.told(0, 0));
        due(60, x.told(1, 0));
        due(0, x.told(3, 0));
        // a street between a gauge's crossing and an end by another street side by side is NEAR by 2 only
        x = town(3);
        x.street(0, 1, 5, false);
        x.street(0, 1, 5, false);
        x.street(1, 2, 5, true);
        x.gauge(2, true);
        x.row(0, 1);
        x.reading(0, 0, 60);
        due(3, x.snow(0));
        due(60, x.told(1, 0));
    }

    private static void melting() {
        promise(19);
        PloughDepot x = line(3, 10);
        drift(x, 100);
        due(BAD, x.melt(-1, 1));
        due(BAD, x.melt(1, -1));
        due(BAD, x.melt(-1, 0));
        due(NO, x.melt(1, 0));
        due(NO, x.melt(0, 0));
        due(0, x.melt(0, 1));
        due(0, x.melt(6, 7));
        due(100, x.told(0, 0));
        due(1, x.melt(7, 7));
        due(97, x.told(0, 0));
        due(3, x.melt(27, 8));
        due(88, x.told(0, 0));
        due(88, x.told(1, 0));
        due(30, x.melt(30, 1));
        due(0, x.told(0, 0));
        due(100000, x.melt(Integer.MAX_VALUE, 1));
        due(100000, x.melt(100001, 1));
        due(99999, x.melt(99999, 1));
        due(1, x.melt(Integer.MAX_VALUE, Integer.MAX_VALUE));
        // 16777217 is 16777216 as a float
        due(1, x.melt(16777216, 16777217));
        int[] ts = {16777215, 16777217, 123456789, 987654321, 2147483647, 1999999999, 1000003};
        int[] ss = {3, 7, 12345, 99991, 1234567, 16777217, 123456789};
        for (int t : ts) {
            for (int s : ss) {
                float ft = (float) t / 8f;
                float fs = (float) s / 8f;
                due(Math.min(100000, (int) ((ft - ft % fs) / fs)), x.melt(t, s));
            }
        }
    }

    private static void ploughs() {
        promise(20);
        PloughDepot x = line(2, 100);
        due(BAD, x.plough(-1, 5));
        due(BAD, x.plough(4, 5));
        due(BAD, x.plough(0, -1));
        due(BAD, x.plough(0, 10001));
        due(0, x.count(3));
        due(0, x.plough(0, 0));
        due(1, x.plough(3, 10000));
        due(0, x.part(0, 5));
        due(0, x.part(0, 6));
        due(10000, x.part(1, 5));
        due(3, x.part(1, 6));
        for (int p = 2; p < 12; p++) {
            due(p, x.plough(p % 4, p));
        }
        due(FULL, x.plough(0, 0));
        due(BAD, x.plough(4, 0));
        due(12, x.count(3));

        promise(21);
        due(FULL, x.pair(0, 1, 5));
        due(BAD, x.pair(0, 0, 5));
        x = line(2, 100);
        for (int p = 0; p < 5; p++) {
            x.plough(p % 4, 100);
        }
        due(BAD, x.pair(0, 5, 5));
        due(BAD, x.pair(-1, 0, 5));
        due(BAD, x.pair(1, 1, 5));
        due(BAD, x.pair(0, 1, -1));
        due(BAD, x.pair(0, 1, 10001));
        x.round();
        x.split();
        due(2, x.part(0, 1));
        due(5, x.pair(0, 3, 10000));
        due(NONE, x.part(0, 6));
        due(0, x.part(0, 1));
        due(0, x.part(0, 4));
        due(100, x.part(0, 5));
        due(NONE, x.part(3, 6));
        due(4, x.part(5, 6));
        due(10000, x.part(5, 5));
        due(0, x.part(5, 1));
        // p is asked first, of each first whether it is OUT
        due(NULL, x.pair(0, 5, 5));
        due(CAST, x.pair(5, 0, 5));
        due(CAST, x.pair(1, 5, 5));
        due(NULL, x.pair(1, 0, 5));
        due(2, x.findings(0));
        due(2, x.findings(2));
        x.out(5);
        due(NULL, x.pair(5, 1, 5));
        due(6, x.count(3));
        due(6, x.pair(1, 2, 0));
        due(0, x.part(6, 5));

        promise(22);
        x = line(2, 100);
        x.plough(0, 100);
        x.plough(1, 100);
        x.round();
        x.split();
        due(BAD, x.out(2));
        due(BAD, x.out(-1));
        due(2, x.part(0, 1));
        due(1, x.out(0));
        due(0, x.part(0, 1));
        due(NONE, x.part(0, 6));
        due(0, x.out(0));
        due(NULL, x.go(0, 1));
        due(1, x.split());
        due(0, x.part(0, 1));
        due(2, x.part(1, 1));
    }

    private static void asking() {
        promise(23);
        PloughDepot x = town(2);
        x.street(0, 1, 1, false);
        x.street(0, 1, 90, false);
        x.street(0, 1, 91, false);
        for (int kind = 0; kind < 4; kind++) {
            x.plough(kind, 100);
        }
        int[] speeds = {50, 30, 45, 20};
        int[] reaches = {200, 600, 200, 400};
        int[][] takes = {{1, 2, 2}, {1, 3, 4}, {3, 4, 5}, {2, 6, 6}};
        for (int kind = 0; kind < 4; kind++) {
            due(speeds[kind], x.asks(kind, 0, 0));
            due(reaches[kind], x.asks(kind, 0, 1));
            for (int s = 0; s < 3; s++) {
                due(takes[kind][s], x.asks(kind, s, 2));
            }
            due(1, x.asks(kind, 0, 3));
        }
        due(BAD, x.asks(4, 0, 0));
        due(BAD, x.asks(0, 3, 0));
        due(BAD, x.asks(0, 0, 4));
        due(BAD, x.asks(0, 0, -1));
        due(BAD, x.asks(-1, 0, 0));
        due(BAD, x.asks(0, -1, 0));
        // depths about each REACH, and what is due of 0 TRUCK, 1 BLOWER, 2 SALTER, 3 TRACTOR
        int[] depths = {200, 201, 400, 401, 600, 601, 800, 801, 1200, 1201, 1800, 1801};
        int[][] passes = {
            {1, 2, 2, DEEP, DEEP, DEEP, DEEP, DEEP, DEEP, DEEP, DEEP, DEEP},
            {1, 1, 1, 1, 1, 3, 3, 3, 3, 3, 3, DEEP},
            {1, 2, 2, DEEP, DEEP, DEEP, DEEP, DEEP, DEEP, DEEP, DEEP, DEEP},
            {1, 1, 1, 2, 2, 2, 2, DEEP, DEEP, DEEP, DEEP, DEEP}};
        x.gauge(0, true);
        x.row(0, 1);
        int is = 0;
        int deep = 0;
        for (int k = 0; k < depths.length; k++) {
            x.reading(0, 0, depths[k] - is);
            x.snow(0);
            is = depths[k];
            due(is, x.told(0, 0));
            for (int kind = 0; kind < 4; kind++) {
                due(passes[kind][k], x.asks(kind, 0, 3));
                due(passes[kind][k] == DEEP ? DEEP : 0, x.status());
                deep += passes[kind][k] == DEEP ? 1 : 0;
            }
        }
        due(deep, x.findings(4));
        x.out(0);
        due(NULL, x.asks(0, 0, 0));
        due(NULL, x.asks(0, 0, 3));
        due(2, x.findings(0));
        due(BAD, x.asks(0, 0, 4));
        // a PAIR of BLOWER and SALTER: SPEED 30, REACH 800, whatever its drifts 1, 2 passes
        x = town(2);
        x.street(0, 1, 91, false);
        x.street(0, 1, 2, false);
        x.plough(1, 100);
        x.plough(2, 100);
        due(2, x.pair(1, 0, 50));
        due(30, x.asks(2, 0, 0));
        due(800, x.asks(2, 0, 1));
        due(5, x.asks(2, 0, 2));
        due(3, x.asks(2, 1, 2));
        drift(x, 800);
        due(1, x.asks(2, 0, 3));
        x.reading(0, 0, 1);
        x.snow(0);
        due(2, x.asks(2, 0, 3));
        x.reading(0, 0, 799);
        x.snow(0);
        due(1600, x.told(0, 0));
        due(2, x.asks(2, 0, 3));
        x.reading(0, 0, 1);
        x.snow(0);
        due(DEEP, x.asks(2, 0, 3));
        due(1, x.findings(4));
    }

    private static void salting() {
        promise(24);
        PloughDepot x = line(2, 100);
        drift(x, 120);
        x.plough(2, 10);
        x.plough(0, 10);
        x.plough(2, 10);
        x.plough(2, 10);
        due(BAD, x.salt(4, 0));
        due(BAD, x.salt(0, 1));
        due(BAD, x.salt(-1, 0));
        due(BAD, x.salt(0, -1));
        due(CAST, x.salt(1, 0));
        due(70, x.salt(0, 0));
        due(20, x.salt(0, 0));
        due(0, x.salt(0, 0));
        due(0, x.salt(0, 0));
        due(0, x.told(0, 0));
        x.pair(2, 3, 10);
        due(NULL, x.salt(2, 0));
        due(CAST, x.salt(4, 0));
        x.out(1);
        due(NULL, x.salt(1, 0));
        due(2, x.findings(2));
        due(2, x.findings(0));
    }

    private static void oddAndLeast() {
        promise(25);
        PloughDepot x = line(4, 10);
        due(0, x.odd(0));
        due(3, x.odd(1));
        due(NONE, x.odd(2));
        due(NONE, x.odd(-1));
        due(NONE, x.odd(Integer.MAX_VALUE));
        due(0, x.status());
        x.sides(1, 2);
        due(0, x.odd(0));
        due(1, x.odd(1));
        due(2, x.odd(2));
        due(3, x.odd(3));
        x.shut(0, true);
        due(2, x.odd(0));
        due(3, x.odd(1));
        x.sides(2, 0);
        due(NONE, x.odd(0));
        x.sides(2, 1);
        x.oneWay(2, true);
        due(2, x.odd(0));

        promise(26);
        x = town(6);
        x.street(0, 1, 3, false);
        x.street(0, 2, 4, false);
        x.street(0, 3, 5, false);
        // odd: 0 (three), 1, 2, 3
        due(0, x.least(0));
        due(3, x.least(3));
        due(4, x.least(5));
        due(7, x.least(6));
        due(9, x.least(12));
        due(8, x.least(10));
        due(12, x.least(15));
        due(NO, x.least(1));
        due(NO, x.least(7));
        due(BAD, x.least(16));
        due(BAD, x.least(-1));
        due(BAD, x.least(Integer.MIN_VALUE));
        x.street(4, 5, 9, false);
        due(NO, x.least(1 << 3 | 1 << 4));
        due(NO, x.least(63 ^ 3 ^ 12 ^ 48 ^ 17));
        due(12 + 9, x.least(63));
        due(9, x.least(48));
        x.oneWay(3, true);
        due(BAD, x.least(0));
        x.shut(3, true);
        due(0, x.least(0));
        x = town(31);
        for (int c = 0; c < 7; c++) {
            x.street(2 * c, 2 * c + 1, 10 + c, false);
        }
        due(10 + 11 + 12 + 13 + 14 + 15 + 16, x.least((1 << 14) - 1));
        due(10, x.least(3));
        x.street(14, 15, 1, false);
        due(BAD, x.least(3));
        due(BAD, x.least(0));
        // street 0 - 15 besides: 0 is even then, so that 14 are odd again
        x.street(0, 15, 1, false);
        due(14, x.odd(13));
        due(10 + 1 + 1, x.least(1 | 1 << 13));
    }

    private static void roundsByA() {
        promise(27);
        PloughDepot x = new PloughDepot();
        due(0, x.round());
        due(0, x.status());
        due(1, x.length(6));
        x.crossings(3);
        due(0, x.round());
        x.street(1, 2, 5, false);
        due(NO, x.round());
        due(NO, x.status());
        due(0, x.length(0));
        x.shut(0, true);
        due(0, x.round());
        x.shut(0, false);
        x.sides(0, 0);
        due(0, x.round());
        // a ring once round, and twice
        x = ring(4, 10, false);
        due(4, x.round());
        dueRound("+0+1+2+3", x);
        for (int s = 0; s < 4; s++) {
            x.sides(s, 2);
        }
        due(8, x.round());
        dueRound("+0+0+3+2+1+1+2+3", x);
        // a line: all at both ends odd, driven out and back
        x = line(4, 10);
        due(6, x.round());
        dueRound("+0+1+2-2-1-0", x);
        due(3, x.partner(0));
        due(0, x.partner(3));
        due(NONE, x.partner(1));
        // both sides: nothing is odd, nothing is empty
        for (int s = 0; s < 3; s++) {
            x.sides(s, 2);
        }
        due(6, x.round());
        due(0, x.length(5));
        dueRound("+0+1+2+2+1+0", x);
        // JOINING: 0 - 1 is clear, 2 = 3 must be; from 0 or 1 the way of least length, 1 to 2 ahead of others as long
        x = town(4);
        x.street(1, 3, 7, false);
        x.street(0, 1, 5, false);
        x.street(1, 2, 7, false);
        x.street(2, 3, 3, false);
        x.sides(0, 0);
        x.sides(2, 0);
        x.sides(3, 2);
        x.sides(1, 2);
        due(6, x.round());
        due(1, x.length(3));
        due(0, x.length(5));
        dueRound("+1-2+3+3-2+1", x);
        x.shut(2, true);
        due(6, x.round());
        dueRound("+1-0+3+3-0+1", x);
        x.shut(0, true);
        due(NO, x.round());
        due(6, x.length(0));
        // JOINING takes the least first CROSSING, ahead of the least last one
        x = town(4);
        x.street(0, 3, 4, false);
        x.street(1, 2, 4, false);
        x.street(0, 1, 1, false);
        x.street(2, 3, 1, false);
        x.sides(0, 0);
        x.sides(1, 0);
        x.sides(2, 2);
        x.sides(3, 2);
        due(6, x.round());
        dueRound("-0+3+3-0+2+2", x);
        // of as good PAIRS the least CROSSING has the least partner: four that are all joined
        x = town(4);
        for (int c = 0; c < 4; c++) {
            for (int d = c + 1; d < 4; d++) {
                x.street(d, c, 1, false);
            }
        }
        due(8, x.round());
        due(1, x.partner(0));
        due(0, x.partner(1));
        due(3, x.partner(2));
        // but LENGTH is first: 0 - 1 and 2 - 3 by their own streets are longer
        x = town(4);
        for (int c = 0; c < 4; c++) {
            for (int d = c + 1; d < 4; d++) {
                x.street(d, c, c == 0 && d == 3 ? 1 : 2, false);
            }
        }
        due(8, x.round());
        due(3, x.partner(0));
        due(2, x.partner(1));
        due(11 + 1 + 2, x.length(1));
    }

    private static void roundsByB() {
        promise(27);
        PloughDepot x = ring(3, 10, true);
        due(3, x.round());
        due(2, x.length(6));
        dueRound("+0+1+2", x);
        // with both sides: on from where it is, by the least street of those as near
        x.sides(0, 2);
        x.sides(2, 2);
        due(6, x.round());
        dueRound("+0+1+2+0-1+2", x);
        // nothing to be cleared, though a street is one way
        for (int s = 0; s < 3; s++) {
            x.sides(s, 0);
        }
        due(0, x.round());
        due(2, x.length(6));
        // no way to it, no way back
        x = line(3, 10);
        x.oneWay(1, true);
        due(NO, x.round());
        x.oneWay(1, false);
        x.oneWay(0, true);
        due(NO, x.round());
        x = town(3);
        x.street(1, 0, 5, true);
        due(NO, x.round());
        // a way that is empty goes along a street that must be cleared, which is cleared later
        x = town(4);
        x.street(0, 1, 10, true);
        x.street(1, 0, 1, false);
        x.street(2, 1, 5, false);
        x.sides(0, 0);
        due(4, x.round());
        dueRound("+1+2-2-1", x);
        // of streets as near the least one is taken
        x = town(3);
        x.street(1, 0, 5, true);
        x.street(0, 1, 5, false);
        x.street(0, 1, 5, false);
        x.street(2, 0, 5, true);
        x.shut(3, true);
        due(4, x.round());
        dueRound("+1+0+2-0", x);
        // of both ends as near a is taken ahead of b
        x = town(4);
        x.street(0, 2, 5, false);
        x.street(0, 1, 5, false);
        x.street(2, 1, 9, false);
        x.street(3, 0, 1, true);
        x.sides(0, 0);
        x.sides(1, 0);
        x.sides(3, 0);
        due(3, x.round());
        dueRound("-0+2-1", x);
        due(2, x.length(6));
        // the street that is shut and one way does not count
        x.shut(3, true);
        due(4, x.round());
        due(1, x.length(6));
        dueRound("-1+2-2-1", x);
    }

    private static void roundsAtTheirLimits() {
        promise(27);
        // 50 streets from 0 to 1, and 19 back: each side takes 20 drives
        PloughDepot x = town(20);
        for (int c = 1; c < 20; c++) {
            x.street(c, (c + 1) % 20, 1, true);
            x.sides(c - 1, 0);
        }
        for (int k = 0; k < 50; k++) {
            x.street(0, 1, 1, true);
            x.sides(19 + k, 2);
        }
        due(2000, x.round());
        due(100, x.length(2));
        due(2000, x.length(1));
        due(NONE, x.at(2000, 0));
        due(18, x.at(1999, 0));
        x.street(0, 1, 1, true);
        due(FULL, x.round());
        due(FULL, x.status());
        due(2000, x.length(0));
        x.sides(19, 1);
        due(2000, x.round());
        // each side takes 23 drives here: 86 of them are 1978, 87 are one too many
        x = town(23);
        for (int c = 1; c < 23; c++) {
            x.street(c, (c + 1) % 23, 1, true);
            x.sides(c - 1, 0);
        }
        for (int k = 0; k < 44; k++) {
            x.street(0, 1, 1, true);
            x.sides(22 + k, k == 43 ? 0 : 2);
        }
        due(1978, x.round());
        x.sides(65, 1);
        due(FULL, x.round());
        due(1978, x.length(0));
        x = town(20);
        for (int c = 1; c < 20; c++) {
            x.street(c, (c + 1) % 20, 1, true);
            x.sides(c - 1, 0);
        }
        for (int k = 0; k < 50; k++) {
            x.street(0, 1, 1, true);
            x.sides(19 + k, 2);
        }
        due(2000, x.round());
        promise(35);
        // in each of 100 turns streets 0 to 9, and 10 to 18, and one of two digits that is cleared
        due(100 * (10 * 2 + 9 * 3 + 3), x.text());

        // more than 14 odd: PAIRS in order, and EXCHANGES
        promise(27);
        x = town(17);
        for (int c = 1; c < 17; c++) {
            x.street(0, c, c == 1 || c == 2 ? 100 : 1, false);
        }
        // 16 odd: 1 .. 16; each PAIR's WAY leads by 0, all sums are the same: no EXCHANGE
        due(32, x.round());
        due(8, x.length(5));
        due(0, x.length(4));
        due(2, x.partner(1));
        due(16, x.partner(15));
        // a street 1 - 3 that need not be cleared: (1, 3), (2, 4) are less
        x.street(1, 3, 1, false);
        x.sides(16, 0);
        due(33 - 2, x.round());
        due(1, x.length(4));
        due(3, x.partner(1));
        due(4, x.partner(2));
        due(14, x.partner(13));
        // 2 - 3 besides: (1, 2), (3, 4) are 2 + 2, and as much is not less
        x.street(2, 3, 1, false);
        x.sides(17, 0);
        x.round();
        due(0, x.length(4));
        due(2, x.partner(1));
        due(4, x.partner(3));
        // 14 are odd: the same PAIRS as by an EXCHANGE, but none is made
        x.shut(17, true);
        x.sides(14, 0);
        x.sides(15, 0);
        x.round();
        due(0, x.length(4));
        due(7, x.length(5));
        due(3, x.partner(1));
        due(4, x.partner(2));
        x.sides(14, 1);
        x.sides(15, 1);
        // 1 - 4 instead of both: (1, 3), (2, 4) are no less, but (1, 4), (2, 3)
        x.shut(16, true);
        x.shut(17, true);
        x.street(4, 1, 1, false);
        x.sides(18, 0);
        x.round();
        due(1, x.length(4));
        due(4, x.partner(1));
        due(3, x.partner(2));
    }

    private static void factsOfTheRound() {
        promise(28);
        PloughDepot x = line(3, 10);
        x.round();
        due(1, x.at(1, 0));
        due(1, x.at(1, 1));
        due(2, x.at(1, 2));
        due(1, x.at(1, 3));
        due(2, x.at(2, 1));
        due(1, x.at(2, 2));
        due(0, x.at(2, 3));
        due(NONE, x.at(4, 0));
        due(0, x.status());
        due(NONE, x.at(-1, 3));
        due(BAD, x.at(0, 4));
        due(BAD, x.at(0, -1));
        due(BAD, x.at(9, 4));
        due(BAD, x.status());

        promise(29);
        int[] want = {4, 40, 2, 0, 0, 1, 1};
        for (int what = 0; what < 7; what++) {
            due(want[what], x.length(what));
        }
        due(BAD, x.length(7));
        due(BAD, x.length(-1));
        // what is refused leaves THE ROUND that was, and so does a change of the map
        x.shut(0, true);
        due(NO, x.round());
        for (int what = 0; what < 7; what++) {
            due(want[what], x.length(what));
        }

        promise(30);
        due(2, x.partner(0));
        due(NONE, x.partner(1));
        due(0, x.partner(2));
        due(BAD, x.partner(3));
        due(BAD, x.partner(-1));
        x.crossings(1);
        due(NONE, x.partner(3));
        x.shut(0, false);
        x.oneWay(0, true);
        x.sides(1, 0);
        x.sides(0, 0);
        due(0, x.round());
        due(NONE, x.partner(0));
        due(2, x.length(6));
    }

    private static void splitting() {
        promise(31);
        // a ring of 4 streets of 100: a truck takes 2 minutes for each
        PloughDepot x = ring(4, 100, false);
        x.round();
        due(0, x.split());
        due(0, x.status());
        x.plough(0, 5);
        due(0, x.split());
        due(0, x.part(0, 1));
        x.plough(0, 1);
        x.plough(0, 4);
        due(1, x.split());
        int[][] want = {{0, 2, 0, 0, 4, 5, 0, 0, 0}, {2, 0, 0, 0, 0, 1, 0, 0, 0}, {2, 2, 0, 0, 4, 4, 0, 0, 0}};
        for (int p = 0; p < 3; p++) {
            for (int what = 0; what < 9; what++) {
                due(want[p][what], x.part(p, what));
            }
        }
        // not all are taken: PARTS stay as they were, and it is no change
        x.crossings(1);
        x.out(2);
        due(0, x.split());
        due(2, x.part(0, 1));
        due(1, x.undo());
        due(2, x.part(2, 1));
        // begun PARTS are given anew
        due(1, x.go(0, 1));
        due(1, x.part(0, 2));
        due(1, x.split());
        due(0, x.part(0, 2));
        due(0, x.part(0, 3));
        // with another ROUND no PLOUGH has a PART
        due(4, x.round());
        due(0, x.part(2, 0));
        due(0, x.part(2, 1));
        due(0, x.part(2, 4));
        due(NO, x.go(0, 1));
        // passes make more minutes; TOO DEEP hands the DRIVE on, and it is no FINDING
        x = line(2, 100);
        x.plough(0, 6);
        x.plough(1, 100);
        x.round();
        drift(x, 300);
        due(1, x.split());
        due(2, x.part(0, 1));
        due(2 * 2 + 2, x.part(0, 4));
        x.reading(0, 0, 200);
        x.snow(0);
        due(1, x.split());
        due(0, x.part(0, 1));
        due(2, x.part(1, 1));
        due(4 + 4, x.part(1, 4));
        due(0, x.findings(4));
        // no DRIVES: each has a PART of none
        x = town(1);
        x.plough(0, 6);
        due(1, x.split());
        due(1, x.undo());

        promise(32);
        due(BAD, x.part(1, 0));
        due(BAD, x.part(-1, 0));
        due(BAD, x.part(0, 9));
        due(BAD, x.part(0, -1));
        due(6, x.part(0, 5));
        x.out(0);
        due(NONE, x.part(0, 6));
        due(6, x.part(0, 5));
    }

    private static void going() {
        promise(33);
        PloughDepot x = line(3, 100);
        x.sides(1, 2);
        drift(x, 300);
        x.plough(0, 100);
        x.plough(1, 100);
        due(NO, x.go(0, 1));
        x.round();
        // 0 out, 1 both, 0 back: 4 drives, and 0 has one side
        dueRound("+0+1+1-0", x);
        x.split();
        due(BAD, x.go(2, 1));
        due(BAD, x.go(-1, 1));
        due(BAD, x.go(0, 0));
        due(BAD, x.go(0, 51));
        due(4 + 4 + 4 + 2, x.part(0, 4));
        due(NO, x.go(1, 1));
        due(1, x.go(0, 1));
        due(0, x.told(0, 0));
        due(1, x.told(0, 2));
        due(4, x.part(0, 3));
        due(1, x.part(0, 7));
        // one of two sides: the drift stays
        due(1, x.go(0, 1));
        due(300, x.told(1, 0));
        due(1, x.told(1, 2));
        // shut: nothing is driven, but it is looked at
        promise(34);
        due(2, x.looks());
        x.shut(1, true);
        due(0, x.go(0, 5));
        due(0, x.status());
        due(3, x.looks());
        due(2, x.part(0, 2));
        due(1, x.undo());
        due(0, x.told(1, 4));
        due(3, x.looks());
        x.shut(0, true);
        due(1, x.go(0, 5));
        due(5, x.looks());
        due(0, x.told(1, 0));
        due(2, x.told(1, 2));
        x.shut(0, false);
        due(1, x.go(0, 50));
        due(6, x.looks());
        due(14, x.part(0, 3));
        due(3, x.part(0, 7));
        due(0, x.part(0, 8));
        due(NO, x.go(0, 1));
        due(6, x.looks());
        due(1, x.undo());
        due(3, x.part(0, 2));
        due(6, x.looks());

        promise(33);
        // deeper than it was: TOO DEEP is a FINDING, and it is driven as an EMPTY one; and more than its MINUTES
        x = line(2, 100);
        x.plough(0, 4);
        x.round();
        x.split();
        drift(x, 401);
        due(2, x.go(0, 50));
        due(0, x.status());
        due(1, x.findings(4));
        due(401, x.told(0, 0));
        due(0, x.told(0, 2));
        due(4, x.part(0, 3));
        due(0, x.part(0, 8));
        due(0, x.part(0, 7));
        x.round();
        x.split();
        due(1, x.undo());
        x = line(2, 100);
        x.plough(0, 4);
        x.round();
        x.split();
        drift(x, 400);
        due(1, x.go(0, 1));
        due(4, x.part(0, 3));
        due(0, x.part(0, 8));
        due(1, x.go(0, 1));
        due(6, x.part(0, 3));
        due(1, x.part(0, 8));
        due(1, x.part(0, 7));
        // SIDES are none now: CLEARED stays 0, and the DRIFT goes
        x = line(2, 100);
        x.plough(0, 4);
        x.round();
        x.split();
        drift(x, 100);
        x.sides(0, 0);
        due(1, x.go(0, 1));
        due(0, x.told(0, 2));
        due(0, x.told(0, 0));
        // a CLEARED that has all its SIDES stays so, and new snow goes by another DRIVE that CLEARS
        x = line(2, 100);
        x.sides(0, 2);
        x.plough(0, 100);
        x.round();
        x.split();
        due(1, x.go(0, 1));
        x.round();
        x.split();
        due(1, x.go(0, 1));
        due(2, x.told(0, 2));
        x.round();
        x.split();
        drift(x, 90);
        due(1, x.go(0, 1));
        due(2, x.told(0, 2));
        due(0, x.told(0, 0));
        x.out(0);
        due(NULL, x.go(0, 1));
        due(BAD, x.go(0, 0));
        due(1, x.findings(0));
    }

    private static void texts() {
        promise(35);
        PloughDepot x = ring(12, 100, false);
        due(0, x.text());
        x.round();
        dueText("+0+1+2+3+4+5+6+7+8+9+10+11", x);
        x.plough(0, 8);
        x.plough(0, 1);
        x.plough(0, 14);
        x.plough(1, 40);
        x.plough(1, 40);
        x.split();
        dueText("+0+1+2+3A+4+5+6+7+8+9+10C+11D", x);
        x.out(2);
        dueText("+0+1+2+3A+4+5+6+7+8+9+10+11D", x);
        // who has a PART of no DRIVES has no last one, though it stands behind street 3
        x.out(0);
        due(4, x.part(1, 0));
        dueText("+0+1+2+3+4+5+6+7+8+9+10+11D", x);
        // street 100 and above have three digits; a line is empty on its way back
        x = town(2);
        for (int s = 0; s < 102; s++) {
            x.street(0, 1, 1, false);
            x.sides(s, s < 100 ? 0 : 1);
        }
        x.sides(100, 0);
        x.round();
        dueText("-0+101", x);

        promise(36);
        due('-', x.sign(0));
        due('0', x.sign(1));
        due('+', x.sign(2));
        due('1', x.sign(3));
        due('1', x.sign(5));
        due(NONE, x.sign(6));
        due(NONE, x.sign(-1));
        x.sides(101, 0);
        x.round();
        due('+', x.sign(2));
        due(0, x.text());
        due(NONE, x.sign(0));
        // many DRIVES of three digits
        promise(35);
        x = town(20);
        for (int s = 0; s < 100; s++) {
            x.street(0, 2, 1, false);
            x.shut(s, true);
        }
        for (int c = 1; c < 20; c++) {
            x.street(c, (c + 1) % 20, 1, true);
            x.sides(99 + c, 0);
        }
        for (int k = 0; k < 31; k++) {
            x.street(0, 1, 1, true);
            x.sides(119 + k, 2);
        }
        due(62 * 20, x.round());
        due(62 * 20 * 4, x.text());
    }

    private static void digests() {
        promise(37);
        PloughDepot x = town(2);
        due(31 * 7 + 2, x.digest());
        x.gauge(1, true);
        due(31 * (31 * (31 * 7 + 2) + 1) - 1, x.digest());
        x.row(0, 2);
        x.reading(0, 1, 55);
        int h = 31 * 7 + 2;
        for (int v : new int[] {1, 2, 0, 55}) {
            h = 31 * h + v;
        }
        due(h, x.digest());
        x.none(0, 0, 0);
        h = 31 * 7 + 2;
        for (int v : new int[] {1, 2, -1, 55}) {
            h = 31 * h + v;
        }
        due(h, x.digest());
        x.street(0, 1, 10, false);
        x.plough(2, 100);
        x.round();
        x.split();
        x.go(0, 1);
        h = 31 * 7 + 2;
        int[] rest = {0, 0, 1, 1, 0, 0, 10, 0, 1, 1, 2, -1, 55, 0, 2, 1, 3, 6, 100, 2, 0, 0, 0, 0, 1, 1, 0, 1, 0, 0};
        for (int v : rest) {
            h = 31 * h + v;
        }
        due(h, x.digest());
        due(BAD, x.told(9, 9));
        x.digest();
        due(0, x.status());
    }

    /** The digest ahead of a change must come back with undo(), and once only. */
    private static void dueUndone(PloughDepot x, int was) {
        due(1, x.undo());
        due(was, x.digest());
        due(0, x.undo());
        due(was, x.digest());
    }

    private static PloughDepot busy() {
        PloughDepot x = ring(5, 100, false);
        x.street(0, 2, 50, false);
        x.gauge(0, false);
        x.gauge(1, true);
        x.row(0, 4);
        x.row(1, 4);
        x.reading(0, 0, 200);
        x.reading(1, 1, 90);
        x.snow(0);
        x.plough(0, 500);
        x.plough(2, 500);
        x.plough(1, 500);
        x.round();
        x.split();
        x.go(0, 2);
        return x;
    }

    private static void undoing() {
        promise(38);
        PloughDepot x = busy();
        int was = x.digest();
        x.crossings(3);
        dueUndone(x, was);
        x.street(0, 3, 7, true);
        dueUndone(x, was);
        due(6, x.count(1));
        x.oneWay(1, true);
        dueUndone(x, was);
        x.shut(1, true);
        dueUndone(x, was);
        x.sides(0, 2);
        dueUndone(x, was);
        x.gauge(0, true);
        dueUndone(x, was);
        x.row(0, 2);
        dueUndone(x, was);
        x.row(0, 9);
        dueUndone(x, was);
        x.lose(0);
        dueUndone(x, was);
        x.reading(0, 0, 16);
        dueUndone(x, was);
        x.none(0, 0, 1);
        dueUndone(x, was);
        x.copy(0, 0, 0, 1, 3);
        dueUndone(x, was);
        x.copies(0, 1, 3);
        dueUndone(x, was);
        x.snow(1);
        dueUndone(x, was);
        x.melt(80, 8);
        dueUndone(x, was);
        x.plough(3, 5);
        dueUndone(x, was);
        x.pair(0, 1, 5);
        dueUndone(x, was);
        x.out(0);
        dueUndone(x, was);
        x.salt(1, 0);
        dueUndone(x, was);
        x.shut(5, true);
        was = x.digest();
        x.round();
        dueUndone(x, was);
        x.split();
        dueUndone(x, was);
        due(3, x.go(0, 3));
        due(1, x.undo());
        due(was, x.digest());
        // one step back only, and refused calls are no changes
        x.crossings(1);
        x.crossings(1);
        due(7, x.count(0));
        due(BAD, x.crossings(0));
        due(BAD, x.told(-1, 0));
        due(1, x.undo());
        due(6, x.count(0));
        due(0, x.undo());
        due(6, x.count(0));
        // a change that changes nothing is one, too
        x.crossings(1);
        x.lose(0);
        x.lose(0);
        due(1, x.undo());
        due(NULL, x.read(0, 0));
        due(7, x.count(0));
        x.out(1);
        x.out(1);
        due(1, x.undo());
        due(NONE, x.part(1, 6));
        // FINDINGS, THE TRACE and looks() are not given back
        x = busy();
        int trace = x.trace();
        x.go(0, 1);
        int after = x.trace();
        due(1, x.undo());
        due(after, x.trace());
        due(1, after > trace ? 1 : 0);
        due(3, x.looks());
        // ploughs that come behind an undone one are what they are told to be
        x = line(2, 100);
        x.plough(0, 5);
        x.undo();
        x.plough(3, 5);
        due(20, x.asks(0, 0, 0));
        x.undo();
        x.plough(2, 7);
        due(45, x.asks(0, 0, 0));
        due(0, x.salt(0, 0));
        // THE WAYS follow
        x = line(3, 10);
        due(20, x.way(0, 2));
        x.street(0, 2, 5, false);
        due(5, x.way(0, 2));
        x.undo();
        due(20, x.way(0, 2));
        due(2, x.odd(1));
    }

    private static void findingsAndStatus() {
        promise(39);
        PloughDepot x = line(2, 100);
        due(BAD, x.findings(5));
        due(BAD, x.findings(-1));
        x.gauge(0, false);
        x.plough(0, 10);
        x.read(0, 0);
        due(1, x.findings(0));
        x.row(0, 1);
        x.read(0, 1);
        due(1, x.findings(1));
        x.salt(0, 0);
        due(1, x.findings(2));
        x.row(0, -1);
        due(1, x.findings(3));
        x.reading(0, 0, 4000);
        x.snow(0);
        x.asks(0, 0, 3);
        due(1, x.findings(4));
        // BAD, FULL, NO are none
        x.read(9, 9);
        x.go(0, 1);
        x.melt(1, 0);
        for (int kind = 0; kind < 5; kind++) {
            due(1, x.findings(kind));
        }

        promise(40);
        due(NO, x.status());
        x.count(9);
        x.findings(9);
        x.trace();
        x.looks();
        x.sign(0);
        due(NO, x.status());
        due(NO, x.status());
        x.told(0, 0);
        due(0, x.status());
        x.asks(0, 0, 3);
        due(DEEP, x.status());
        x.text();
        due(0, x.status());
        x.row(0, -1);
        due(SIZE, x.status());
        x.undo();
        due(0, x.status());
        x.salt(0, 0);
        due(CAST, x.status());
        x.at(99, 0);
        due(0, x.status());
        x.read(0, 5);
        due(INDEX, x.status());
        x.odd(99);
        due(0, x.status());
        x.out(0);
        x.asks(0, 0, 0);
        due(NULL, x.status());
        x.split();
        due(0, x.status());
        x.crossings(20);
        x.crossings(20);
        x.crossings(20);
        due(FULL, x.status());
        x.partner(0);
        due(0, x.status());
    }

    private static void tracing() {
        promise(41);
        PloughDepot x = line(2, 100);
        for (int kind = 0; kind < 4; kind++) {
            x.plough(kind, 100);
        }
        x.plough(2, 100);
        x.plough(3, 100);
        int sum = 0;
        int[] takes = {1, 1, 21, 11};
        int[] passes = {100, 1000, 100, 100};
        for (int kind = 0; kind < 4; kind++) {
            x.asks(kind, 0, 0);
            x.asks(kind, 0, 1);
            due(sum, x.trace());
            x.asks(kind, 0, 2);
            sum += takes[kind];
            due(sum, x.trace());
            x.asks(kind, 0, 3);
            sum += passes[kind];
            due(sum, x.trace());
        }
        x.pair(4, 5, 100);
        x.asks(6, 0, 0);
        x.asks(6, 0, 1);
        due(sum, x.trace());
        x.asks(6, 0, 2);
        sum += 5 + 21 + 11;
        due(sum, x.trace());
        x.asks(6, 0, 3);
        sum += 10000;
        due(sum, x.trace());
        x.asks(4, 0, 2);
        x.asks(0, 1, 2);
        due(sum, x.trace());
        // TAKES once for each DRIVE, whatever its PASSES; TOO DEEP asks no TAKES in split(), but in go()
        x = line(2, 100);
        x.plough(0, 100);
        x.round();
        drift(x, 400);
        due(1, x.split());
        due(100 + 1 + 1, x.trace());
        x.reading(0, 0, 1);
        x.snow(0);
        due(0, x.split());
        due(102 + 100, x.trace());
        due(2, x.go(0, 2));
        due(202 + 100 + 1 + 1, x.trace());
        // a DRIVE that does not fit the MINUTES is asked of the next one, too
        x = line(2, 100);
        x.plough(0, 1);
        x.plough(1, 100);
        x.plough(2, 100);
        x.round();
        due(1, x.split());
        due(101 + 1001 + 1, x.trace());
    }

    private static void counting() {
        promise(42);
        PloughDepot x = town(7);
        x.street(0, 1, 5, false);
        x.street(0, 2, 5, false);
        x.gauge(0, false);
        x.plough(0, 0);
        x.plough(0, 0);
        x.plough(0, 0);
        due(7, x.count(0));
        due(2, x.count(1));
        due(1, x.count(2));
        due(3, x.count(3));
        due(BAD, x.count(4));
        due(BAD, x.count(-1));
        x.out(0);
        due(3, x.count(3));
        x.pair(1, 2, 5);
        due(4, x.count(3));
    }
}
