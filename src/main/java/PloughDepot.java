import java.util.Arrays;

/**
 * The depot of a snowed-in town: its map, its gauges, its ploughs, the round that they drive
 * and the parts of it that each one has. The words in capitals are the document's.
 */
public final class PloughDepot {
    public static final int NONE = -1, BAD = -2, FULL = -3, NULL = -4, INDEX = -5, CAST = -6, SIZE = -7, NO = -8, DEEP = -9;

    private static final int MOST_CROSSINGS = 60, MOST_STREETS = 150, MOST_GAUGES = 20, MOST_HOURS = 200;
    private static final int MOST_PLOUGHS = 12, MOST_MINUTES = 10000, MOST_LENGTH = 10000, MOST_SIDES = 2;
    private static final int MOST_DRIVES = 2000, MOST_SIGNS = 8000, MOST_TENTHS = 100000;
    private static final int MOST_EXACT = 14, MOST_PAIRS = 30, MOST_EXCHANGES = 1000;
    private static final int DEPOT = 0;

    /** Stands for no WAY; two of it together are still an int. */
    private static final int FAR = 1000000000;
    /** What PASSES answer of a DRIFT that is TOO DEEP. */
    private static final int TOO_DEEP = 0;

    /** The columns of a STREET, as told() numbers them. */
    private static final int DRIFT = 0, GUESSED = 1, CLEARED = 2, SIDES = 3, SHUT = 4, ONE_WAY = 5, LENGTH = 6, END_A = 7, END_B = 8;
    private static final int STREET_COLUMNS = 9;
    /** The columns of a GAUGE; HOURS are NONE while its ROW is MISSING. */
    private static final int STANDS = 0, SHORTS = 1, HOURS = 2;
    private static final int GAUGE_COLUMNS = 3;
    /** The columns of a PLOUGH, as part() numbers them; KIND is NONE, if it is OUT. */
    private static final int FIRST = 0, DRIVES = 1, DRIVEN = 2, SPENT = 3, FOUND = 4, MINUTES = 5, KIND = 6, AGAIN = 7, OVER = 8;
    private static final int PLOUGH_COLUMNS = 9;
    /** The columns of a DRIVE, as at() numbers them. */
    private static final int STREET = 0, FROM = 1, TO = 2, CLEARS = 3;
    private static final int DRIVE_COLUMNS = 4;
    /** The facts of THE ROUND, as length() numbers them. */
    private static final int COUNT = 0, ALONG = 1, CLEARING = 2, JOININGS = 3, EXCHANGES = 4, PAIRS = 5, MADE = 6;
    private static final int FACTS = 7;

    private static final int TRUCK = 0, BLOWER = 1, SALTER = 2, TRACTOR = 3, PAIR = 4;
    private static final int MADE_BY_A = 1, MADE_BY_B = 2;

    private final Log log = new Log();
    private final Books now = new Books();
    private final Books before = new Books();
    private final Ways ways = new Ways(now);
    private final Pairing pairing = new Pairing(now, ways);
    private final Planner planner = new Planner(now, ways, pairing);
    /** By number. undo() needs no copy: it takes back the latest one at most, and the next one stands there again. */
    private final Plough[] bodies = new Plough[MOST_PLOUGHS];
    /** What each GAUGE told in the HOUR of snow(); below 0: nothing. */
    private final float[] heights = new float[MOST_GAUGES];
    /** What split() finds; the PLOUGHS have it only if all DRIVES are taken. */
    private final int[] starts = new int[MOST_PLOUGHS];
    private final int[] ends = new int[MOST_PLOUGHS];
    private final int[] found = new int[MOST_PLOUGHS];
    private char[] signs = new char[16];
    private int written = 0;
    private boolean undoable = false;

    public PloughDepot() {
        Plough spare = new Plough(log, 50, 200);
        for (int p = 0; p < MOST_PLOUGHS; p++) {
            bodies[p] = spare;
        }
    }

    // ---- the map

    public int crossings(int n) {
        if (n < 1 || n > 20) {
            return refuse(BAD);
        }
        if (now.crossings + n > MOST_CROSSINGS) {
            return refuse(FULL);
        }
        change();
        now.crossings += n;
        return answer(now.crossings);
    }

    public int street(int a, int b, int length, boolean oneWay) {
        if (!now.hasCrossing(a) || !now.hasCrossing(b) || a == b || length < 1 || length > MOST_LENGTH) {
            return refuse(BAD);
        }
        if (now.streets.size >= MOST_STREETS) {
            return refuse(FULL);
        }
        change();
        int street = now.streets.add();
        now.streets.put(street, SIDES, 1);
        now.streets.put(street, ONE_WAY, oneWay ? 1 : 0);
        now.streets.put(street, LENGTH, length);
        now.streets.put(street, END_A, a);
        now.streets.put(street, END_B, b);
        return answer(street);
    }

    public int oneWay(int street, boolean is) {
        return become(street, ONE_WAY, is ? 1 : 0);
    }

    public int shut(int street, boolean is) {
        return become(street, SHUT, is ? 1 : 0);
    }

    public int sides(int street, int n) {
        if (n < 0 || n > MOST_SIDES) {
            return refuse(BAD);
        }
        int were = become(street, SIDES, n);
        if (were >= 0) {
            now.streets.put(street, CLEARED, 0);
        }
        return were;
    }

    public int told(int street, int what) {
        if (!now.streets.has(street) || what < 0 || what >= STREET_COLUMNS) {
            return refuse(BAD);
        }
        return answer(now.streets.get(street, what));
    }

    public int way(int a, int b) {
        if (!now.hasCrossing(a) || !now.hasCrossing(b)) {
            return refuse(BAD);
        }
        ways.measureEach(1L << b);
        int length = ways.between(a, b);
        return length >= FAR ? refuse(NO) : answer(length);
    }

    public int wayAt(int a, int b, int i) {
        if (!now.hasCrossing(a) || !now.hasCrossing(b)) {
            return refuse(BAD);
        }
        ways.measureEach(1L << b);
        if (ways.between(a, b) >= FAR) {
            return refuse(NO);
        }
        return answer(ways.streetAt(a, b, i));
    }

    // ---- the gauges

    public int gauge(int crossing, boolean shorts) {
        if (!now.hasCrossing(crossing)) {
            return refuse(BAD);
        }
        if (now.gauges.size >= MOST_GAUGES) {
            return refuse(FULL);
        }
        change();
        return answer(now.addGauge(crossing, shorts));
    }

    public int row(int gauge, int n) {
        if (!now.gauges.has(gauge) || n > MOST_HOURS) {
            return refuse(BAD);
        }
        if (n < 0) {
            return refuse(SIZE);
        }
        change();
        now.lay(gauge, n);
        return answer(1);
    }

    public int lose(int gauge) {
        if (!now.gauges.has(gauge)) {
            return refuse(BAD);
        }
        boolean was = now.isMissing(gauge);
        change();
        now.gauges.put(gauge, HOURS, NONE);
        return answer(was ? 0 : 1);
    }

    public int reading(int gauge, int hour, int v) {
        if (!now.gauges.has(gauge)) {
            return refuse(BAD);
        }
        return note(gauge, hour, now.isOfShorts(gauge) ? Books.cellOfShort((short) v) : (long) v);
    }

    public int none(int gauge, int hour, int which) {
        if (!now.gauges.has(gauge) || which < 0 || which > 1) {
            return refuse(BAD);
        }
        return note(gauge, hour, which == 0 ? Books.NOTHING : Books.ENDLESS);
    }

    public int read(int gauge, int hour) {
        if (!now.gauges.has(gauge)) {
            return refuse(BAD);
        }
        int why = now.whyUnread(gauge, hour);
        return why != 0 ? refuse(why) : answer(now.tenths(gauge, hour));
    }

    public int copy(int from, int i, int to, int j, int n) {
        if (!now.gauges.has(from) || !now.gauges.has(to) || now.isOfShorts(from) != now.isOfShorts(to)) {
            return refuse(BAD);
        }
        int why = now.whyUncopied(from, i, to, j, n);
        if (why != 0) {
            return refuse(why);
        }
        change();
        now.copyReadings(from, i, to, j, n);
        return answer(1);
    }

    public int copies(int i, int j, int n) {
        int copied = 0;
        for (int gauge = 0; gauge < now.gauges.size; gauge++) {
            int why = now.whyUncopied(gauge, i, gauge, j, n);
            if (why != 0) {
                refuse(why);
                return copied;
            }
            if (copied == 0) {
                change();
            }
            now.copyReadings(gauge, i, gauge, j, n);
            copied++;
        }
        return answer(copied);
    }

    public int snow(int hour) {
        if (hour < 0 || hour >= MOST_HOURS) {
            return refuse(BAD);
        }
        change();
        readGauges(hour);
        ways.prepare();
        int sure = 0;
        for (int street = 0; street < now.streets.size; street++) {
            if (fallOn(street)) {
                sure++;
            }
        }
        return answer(sure);
    }

    public int melt(int t, int s) {
        if (t < 0 || s < 0) {
            return refuse(BAD);
        }
        if (s == 0) {
            return refuse(NO);
        }
        int times = wholeIn(t, s);
        change();
        for (int street = 0; street < now.streets.size; street++) {
            now.lessDrift(street, 3 * times);
        }
        return answer(times);
    }

    // ---- the ploughs

    public int plough(int kind, int minutes) {
        if (kind < TRUCK || kind > TRACTOR || minutes < 0 || minutes > MOST_MINUTES) {
            return refuse(BAD);
        }
        if (now.ploughs.size >= MOST_PLOUGHS) {
            return refuse(FULL);
        }
        change();
        return answer(enlist(bodyOf(kind), kind, minutes));
    }

    public int pair(int p, int q, int minutes) {
        if (!now.ploughs.has(p) || !now.ploughs.has(q) || p == q || minutes < 0 || minutes > MOST_MINUTES) {
            return refuse(BAD);
        }
        if (now.ploughs.size >= MOST_PLOUGHS) {
            return refuse(FULL);
        }
        int why = whyUnpaired(p);
        if (why == 0) {
            why = whyUnpaired(q);
        }
        if (why != 0) {
            return refuse(why);
        }
        change();
        now.sendOut(p);
        now.sendOut(q);
        return answer(enlist(new Pair(log, bodies[p], bodies[q]), PAIR, minutes));
    }

    public int out(int plough) {
        if (!now.ploughs.has(plough)) {
            return refuse(BAD);
        }
        boolean was = now.isOut(plough);
        change();
        now.sendOut(plough);
        return answer(was ? 0 : 1);
    }

    public int asks(int plough, int street, int what) {
        if (!now.ploughs.has(plough) || !now.streets.has(street) || what < 0 || what > 3) {
            return refuse(BAD);
        }
        if (now.isOut(plough)) {
            return refuse(NULL);
        }
        Plough asked = bodies[plough];
        switch (what) {
            case 0:
                return answer(asked.speed);
            case 1:
                return answer(asked.reach);
            case 2:
                return answer(asked.takes(now.streets.get(street, LENGTH)));
            default:
                int passes = asked.passes(now.streets.get(street, DRIFT));
                return passes == TOO_DEEP ? refuse(DEEP) : answer(passes);
        }
    }

    public int salt(int plough, int street) {
        if (!now.ploughs.has(plough) || !now.streets.has(street)) {
            return refuse(BAD);
        }
        if (now.isOut(plough)) {
            return refuse(NULL);
        }
        if (!(bodies[plough] instanceof Salter)) {
            return refuse(CAST);
        }
        change();
        now.lessDrift(street, 50);
        return answer(now.streets.get(street, DRIFT));
    }

    // ---- the round

    public int odd(int i) {
        pairing.list();
        return answer(pairing.oddAt(i));
    }

    public int least(int bits) {
        int odds = pairing.list();
        if (odds > MOST_EXACT || now.hasOneWay() || bits < 0 || bits >= (1 << odds)) {
            return refuse(BAD);
        }
        ways.measureEach(pairing.oddBits());
        pairing.fillTable();
        int length = pairing.leastOf(bits);
        return length >= FAR ? refuse(NO) : answer(length);
    }

    public int round() {
        int why = now.hasOneWay() ? planner.planOneWays() : planner.planBothWays();
        if (why != 0) {
            return refuse(why);
        }
        change();
        planner.handTo(now);
        for (int p = 0; p < now.ploughs.size; p++) {
            now.dropPart(p);
        }
        return answer(now.drives.size);
    }

    public int at(int i, int what) {
        if (what < 0 || what >= DRIVE_COLUMNS) {
            return refuse(BAD);
        }
        return answer(now.drives.has(i) ? now.drives.get(i, what) : NONE);
    }

    public int length(int what) {
        if (what < 0 || what >= FACTS) {
            return refuse(BAD);
        }
        return answer(now.facts[what]);
    }

    public int partner(int crossing) {
        return now.hasCrossing(crossing) ? answer(now.partners[crossing]) : refuse(BAD);
    }

    public int split() {
        int taken = 0;
        for (int p = 0; p < now.ploughs.size; p++) {
            if (!now.isOut(p)) {
                taken = takeDrives(p, taken);
            }
        }
        if (taken < now.drives.size) {
            return answer(0);
        }
        change();
        for (int p = 0; p < now.ploughs.size; p++) {
            if (!now.isOut(p)) {
                now.dropPart(p);
                now.ploughs.put(p, FIRST, starts[p]);
                now.ploughs.put(p, DRIVES, ends[p] - starts[p]);
                now.ploughs.put(p, FOUND, found[p]);
            }
        }
        return answer(1);
    }

    public int part(int plough, int what) {
        if (!now.ploughs.has(plough) || what < 0 || what >= PLOUGH_COLUMNS) {
            return refuse(BAD);
        }
        return answer(now.ploughs.get(plough, what));
    }

    public int go(int plough, int n) {
        if (!now.ploughs.has(plough) || n < 1 || n > 50) {
            return refuse(BAD);
        }
        if (now.isOut(plough)) {
            return refuse(NULL);
        }
        if (!now.hasDriveLeft(plough)) {
            return refuse(NO);
        }
        if (now.isNextShut(plough)) {
            log.looks++;
            return answer(0);
        }
        change();
        int driven = 0;
        while (driven < n && now.hasDriveLeft(plough)) {
            log.looks++;
            if (now.isNextShut(plough)) {
                break;
            }
            driveNext(plough);
            driven++;
        }
        return answer(driven);
    }

    public int looks() {
        return log.looks;
    }

    // ---- texts and findings

    public int text() {
        written = 0;
        boolean fits = true;
        for (int i = 0; i < now.drives.size && fits; i++) {
            fits = write(i);
        }
        return answer(written);
    }

    public int sign(int i) {
        return i >= 0 && i < written ? signs[i] : NONE;
    }

    public int digest() {
        int sum = 31 * 7 + now.crossings;
        sum = now.streets.digestOf(sum);
        for (int gauge = 0; gauge < now.gauges.size; gauge++) {
            int hours = now.gauges.get(gauge, HOURS);
            sum = 31 * (31 * sum + now.gauges.get(gauge, STANDS)) + hours;
            for (int hour = 0; hour < hours; hour++) {
                sum = 31 * sum + now.tenths(gauge, hour);
            }
        }
        sum = now.ploughs.digestOf(sum);
        return answer(now.drives.digestOf(sum));
    }

    public int undo() {
        if (!undoable) {
            return answer(0);
        }
        undoable = false;
        now.become(before);
        forgetWays();
        return answer(1);
    }

    public int findings(int kind) {
        return kind >= 0 && kind < log.findings.length ? log.findings[kind] : BAD;
    }

    public int status() {
        return log.status;
    }

    public int trace() {
        return log.trace;
    }

    public int count(int what) {
        switch (what) {
            case 0:
                return now.crossings;
            case 1:
                return now.streets.size;
            case 2:
                return now.gauges.size;
            case 3:
                return now.ploughs.size;
            default:
                return BAD;
        }
    }

    // ---- what the calls share

    /** The least number in a set as bits, which is not empty. */
    private static int lowest(long bits) {
        return Long.bitCount((bits & -bits) - 1L);
    }

    private int answer(int value) {
        log.status = 0;
        return value;
    }

    private int refuse(int why) {
        log.status = why;
        log.find(why);
        return why;
    }

    /** Stands in each CHANGE behind the last refusal and ahead of all that it changes. */
    private void change() {
        before.become(now);
        undoable = true;
        forgetWays();
    }

    private void forgetWays() {
        ways.forget();
        pairing.forget();
    }

    private int become(int street, int column, int value) {
        if (!now.streets.has(street)) {
            return refuse(BAD);
        }
        int was = now.streets.get(street, column);
        change();
        now.streets.put(street, column, value);
        return answer(was);
    }

    private int note(int gauge, int hour, long cell) {
        int why = now.whyUnread(gauge, hour);
        if (why != 0) {
            return refuse(why);
        }
        change();
        now.setCell(gauge, hour, cell);
        return answer(1);
    }

    private void readGauges(int hour) {
        for (int gauge = 0; gauge < now.gauges.size; gauge++) {
            int why = now.whyUnread(gauge, hour);
            log.find(why);
            heights[gauge] = why == 0 ? now.height(gauge, hour) : -1f;
        }
    }

    /** Whether a GAUGE that is NEAR told of this STREET. */
    private boolean fallOn(int street) {
        float sum = 0f;
        float weight = 0f;
        for (int gauge = 0; gauge < now.gauges.size; gauge++) {
            int k = heights[gauge] < 0f ? 0 : nearness(gauge, street);
            if (k > 0) {
                sum = sum + heights[gauge] * (float) k;
                weight = weight + (float) k;
            }
        }
        boolean sure = weight > 0f;
        if (sure) {
            int more = Math.min(MOST_TENTHS, (int) (sum / weight * 10f));
            now.streets.put(street, DRIFT, Math.min(MOST_TENTHS, now.streets.get(street, DRIFT) + more));
        }
        now.streets.put(street, GUESSED, sure ? 0 : 1);
        return sure;
    }

    private int nearness(int gauge, int street) {
        int c = now.gauges.get(gauge, STANDS);
        int a = now.streets.get(street, END_A);
        int b = now.streets.get(street, END_B);
        if (c == a || c == b) {
            return 2;
        }
        return ways.areJoined(c, a) || ways.areJoined(c, b) ? 1 : 0;
    }

    /** The rest of two floats is exact, and theirs are whole numbers ahead of the division by 8: so longs find it. */
    private static int wholeIn(int t, int s) {
        long wholeT = (long) (float) t;
        long wholeS = (long) (float) s;
        if (wholeS < 1L) {
            return 0;
        }
        float rest = (float) (wholeT % wholeS) / 8f;
        float floatT = (float) t / 8f;
        float floatS = (float) s / 8f;
        return Math.min(MOST_TENTHS, (int) ((floatT - rest) / floatS));
    }

    private Plough bodyOf(int kind) {
        switch (kind) {
            case BLOWER:
                return new Blower(log, 30, 600);
            case SALTER:
                return new Salter(log, 45, 200);
            case TRACTOR:
                return new Tractor(log, 20, 400);
            default:
                return new Plough(log, 50, 200);
        }
    }

    private int enlist(Plough body, int kind, int minutes) {
        int plough = now.ploughs.add();
        bodies[plough] = body;
        now.ploughs.put(plough, KIND, kind);
        now.ploughs.put(plough, MINUTES, minutes);
        return plough;
    }

    private int whyUnpaired(int plough) {
        if (now.isOut(plough)) {
            return NULL;
        }
        return bodies[plough] instanceof Pair ? CAST : 0;
    }

    /** The DRIVE behind the last one that this PLOUGH takes, from the given one on. */
    private int takeDrives(int plough, int from) {
        int sum = 0;
        int i = from;
        boolean fits = true;
        while (i < now.drives.size && fits) {
            int street = now.drives.get(i, STREET);
            int passes = now.drives.get(i, CLEARS) == 1 ? bodies[plough].passes(now.streets.get(street, DRIFT)) : 1;
            int minutes = passes == TOO_DEEP ? 0 : passes * bodies[plough].takes(now.streets.get(street, LENGTH));
            fits = passes != TOO_DEEP && sum + minutes <= now.ploughs.get(plough, MINUTES);
            if (fits) {
                sum += minutes;
                i++;
            }
        }
        starts[plough] = from;
        ends[plough] = i;
        found[plough] = sum;
        return i;
    }

    private void driveNext(int plough) {
        int i = now.nextDrive(plough);
        int street = now.drives.get(i, STREET);
        boolean clears = now.drives.get(i, CLEARS) == 1;
        int passes = clears ? bodies[plough].passes(now.streets.get(street, DRIFT)) : 1;
        int minutes = Math.max(1, passes) * bodies[plough].takes(now.streets.get(street, LENGTH));
        if (passes == TOO_DEEP) {
            log.find(DEEP);
        } else if (clears) {
            now.clearSide(street);
        }
        now.ploughs.raise(plough, DRIVEN, 1);
        now.ploughs.raise(plough, SPENT, minutes);
        now.ploughs.raise(plough, AGAIN, passes > 1 ? 1 : 0);
        boolean over = now.ploughs.get(plough, SPENT) > now.ploughs.get(plough, MINUTES);
        now.ploughs.raise(plough, OVER, over ? 1 : 0);
    }

    /** Whether the text had room for DRIVE i, with its letter, if one comes behind it. */
    private boolean write(int i) {
        int street = now.drives.get(i, STREET);
        int last = now.whoEndsAt(i);
        int digits = street < 10 ? 1 : street < 100 ? 2 : 3;
        if (written + 1 + digits + (last == NONE ? 0 : 1) > MOST_SIGNS) {
            return false;
        }
        put(now.drives.get(i, CLEARS) == 1 ? '+' : '-');
        if (digits > 2) {
            put((char) ('0' + street / 100));
        }
        if (digits > 1) {
            put((char) ('0' + street / 10 % 10));
        }
        put((char) ('0' + street % 10));
        if (last != NONE) {
            put((char) ('A' + last));
        }
        return true;
    }

    private void put(char sign) {
        if (written >= signs.length) {
            char[] wider = new char[2 * signs.length];
            System.arraycopy(signs, 0, wider, 0, written);
            signs = wider;
        }
        signs[written] = sign;
        written++;
    }

    // ---- classes inside

    /** What undo() does not give back. */
    private static final class Log {
        final int[] findings = new int[5];
        int status = 0;
        int trace = 0;
        int looks = 0;

        /** Counts a refusal that is a FINDING; BAD, FULL, NO and 0 are none. */
        void find(int why) {
            if (why == DEEP) {
                findings[4]++;
            } else if (why <= NULL && why >= SIZE) {
                findings[NULL - why]++;
            }
        }
    }

    /** Rows of numbers. Its room grows as it is needed, so that a new object stays small. */
    private static final class Table {
        private final int[][] cells;
        int size = 0;

        Table(int columns, int room) {
            cells = new int[columns][room];
        }

        boolean has(int row) {
            return row >= 0 && row < size;
        }

        int get(int row, int column) {
            return row >= 0 && row < size && column >= 0 && column < cells.length ? cells[column][row] : NONE;
        }

        void put(int row, int column, int value) {
            if (row >= 0 && row < size && column >= 0 && column < cells.length) {
                cells[column][row] = value;
            }
        }

        void raise(int row, int column, int more) {
            put(row, column, get(row, column) + more);
        }

        /** The number of a new row of zeros. */
        int add() {
            widen(size + 1);
            for (int c = 0; c < cells.length; c++) {
                cells[c][size] = 0;
            }
            size++;
            return size - 1;
        }

        void become(Table other) {
            widen(other.size);
            for (int c = 0; c < cells.length && c < other.cells.length; c++) {
                System.arraycopy(other.cells[c], 0, cells[c], 0, other.size);
            }
            size = other.size;
        }

        int digestOf(int start) {
            int sum = start;
            for (int row = 0; row < size; row++) {
                for (int c = 0; c < cells.length; c++) {
                    sum = 31 * sum + cells[c][row];
                }
            }
            return sum;
        }

        private void widen(int rows) {
            for (int c = 0; c < cells.length; c++) {
                if (rows > cells[c].length) {
                    cells[c] = Arrays.copyOf(cells[c], Math.max(rows, 2 * cells[c].length));
                }
            }
        }
    }

    /** All that undo() gives back. */
    private static final class Books {
        /** The cells of readings that tell nothing, beyond every int; others hold the number that was given. */
        static final long NOTHING = 1L << 40, ENDLESS = 1L << 41;

        int crossings = 0;
        final Table streets = new Table(STREET_COLUMNS, 16);
        final Table gauges = new Table(GAUGE_COLUMNS, 4);
        final Table ploughs = new Table(PLOUGH_COLUMNS, 4);
        final Table drives = new Table(DRIVE_COLUMNS, 16);
        final int[] facts = new int[FACTS];
        final int[] partners = new int[MOST_CROSSINGS];
        /** MOST_HOURS cells for each GAUGE, by number. */
        private long[] cells = new long[0];

        Books() {
            Arrays.fill(partners, NONE);
        }

        void become(Books other) {
            crossings = other.crossings;
            streets.become(other.streets);
            gauges.become(other.gauges);
            ploughs.become(other.ploughs);
            drives.become(other.drives);
            System.arraycopy(other.facts, 0, facts, 0, FACTS);
            System.arraycopy(other.partners, 0, partners, 0, MOST_CROSSINGS);
            widenCells();
            for (int gauge = 0; gauge < gauges.size; gauge++) {
                int hours = Math.max(0, gauges.get(gauge, HOURS));
                System.arraycopy(other.cells, gauge * MOST_HOURS, cells, gauge * MOST_HOURS, hours);
            }
        }

        private void widenCells() {
            int needed = gauges.size * MOST_HOURS;
            if (needed > cells.length) {
                cells = Arrays.copyOf(cells, Math.max(needed, 2 * cells.length));
            }
        }

        boolean hasCrossing(int c) {
            return c >= 0 && c < crossings;
        }

        boolean hasOneWay() {
            for (int s = 0; s < streets.size; s++) {
                if (streets.get(s, SHUT) == 0 && streets.get(s, ONE_WAY) == 1) {
                    return true;
                }
            }
            return false;
        }

        /** SIDES of a STREET that MUST be cleared; 0 of another one. */
        int sidesDue(int street) {
            return streets.get(street, SHUT) == 0 ? streets.get(street, SIDES) : 0;
        }

        int otherEnd(int street, int c) {
            int a = streets.get(street, END_A);
            return a == c ? streets.get(street, END_B) : a;
        }

        void lessDrift(int street, int less) {
            streets.put(street, DRIFT, Math.max(0, streets.get(street, DRIFT) - less));
        }

        void clearSide(int street) {
            int sides = streets.get(street, SIDES);
            if (streets.get(street, CLEARED) < sides) {
                streets.raise(street, CLEARED, 1);
            }
            if (streets.get(street, CLEARED) >= sides) {
                streets.put(street, DRIFT, 0);
            }
        }

        int addGauge(int crossing, boolean shorts) {
            int gauge = gauges.add();
            gauges.put(gauge, STANDS, crossing);
            gauges.put(gauge, SHORTS, shorts ? 1 : 0);
            gauges.put(gauge, HOURS, NONE);
            widenCells();
            return gauge;
        }

        void lay(int gauge, int hours) {
            gauges.put(gauge, HOURS, hours);
            for (int hour = 0; hour < hours; hour++) {
                setCell(gauge, hour, 0L);
            }
        }

        boolean isOfShorts(int gauge) {
            return gauges.get(gauge, SHORTS) == 1;
        }

        boolean isMissing(int gauge) {
            return gauges.get(gauge, HOURS) == NONE;
        }

        static long cellOfShort(short v) {
            if (v == -32768) {
                return NOTHING;
            }
            return v == 32767 ? ENDLESS : (long) v;
        }

        int whyUnread(int gauge, int hour) {
            if (isMissing(gauge)) {
                return NULL;
            }
            return hour < 0 || hour >= gauges.get(gauge, HOURS) ? INDEX : 0;
        }

        int whyUncopied(int from, int i, int to, int j, int n) {
            if (isMissing(from) || isMissing(to)) {
                return NULL;
            }
            return reaches(from, i, n) && reaches(to, j, n) ? 0 : INDEX;
        }

        private boolean reaches(int gauge, int i, int n) {
            return i >= 0 && n >= 0 && i <= gauges.get(gauge, HOURS) - n;
        }

        /** Only behind whyUncopied(). */
        void copyReadings(int from, int i, int to, int j, int n) {
            System.arraycopy(cells, from * MOST_HOURS + i, cells, to * MOST_HOURS + j, n);
        }

        private int cellAt(int gauge, int hour) {
            boolean is = gauges.has(gauge) && hour >= 0 && hour < MOST_HOURS;
            int cell = is ? gauge * MOST_HOURS + hour : NONE;
            return cell < cells.length ? cell : NONE;
        }

        void setCell(int gauge, int hour, long value) {
            int cell = cellAt(gauge, hour);
            if (cell >= 0) {
                cells[cell] = value;
            }
        }

        /** x of SNOW; below 0: the reading tells nothing. */
        float height(int gauge, int hour) {
            int cell = cellAt(gauge, hour);
            if (cell < 0 || cells[cell] == NOTHING || cells[cell] == ENDLESS) {
                return -1f;
            }
            float v = (float) (int) cells[cell];
            float x = isOfShorts(gauge) ? v / 10f : v / 8f;
            return x < 0f ? 0f : x;
        }

        int tenths(int gauge, int hour) {
            float x = height(gauge, hour);
            return x < 0f ? NONE : Math.min(MOST_TENTHS, (int) (x * 10f));
        }

        boolean isOut(int plough) {
            return ploughs.get(plough, KIND) == NONE;
        }

        void sendOut(int plough) {
            dropPart(plough);
            ploughs.put(plough, KIND, NONE);
        }

        void dropPart(int plough) {
            for (int column = 0; column < PLOUGH_COLUMNS; column++) {
                if (column != MINUTES && column != KIND) {
                    ploughs.put(plough, column, 0);
                }
            }
        }

        int nextDrive(int plough) {
            return ploughs.get(plough, FIRST) + ploughs.get(plough, DRIVEN);
        }

        boolean hasDriveLeft(int plough) {
            return ploughs.get(plough, DRIVEN) < ploughs.get(plough, DRIVES);
        }

        boolean isNextShut(int plough) {
            return streets.get(drives.get(nextDrive(plough), STREET), SHUT) == 1;
        }

        /** The PLOUGH whose PART has DRIVE i as its last one; NONE: none has. */
        int whoEndsAt(int i) {
            for (int p = 0; p < ploughs.size; p++) {
                int many = ploughs.get(p, DRIVES);
                if (many > 0 && ploughs.get(p, FIRST) + many - 1 == i) {
                    return p;
                }
            }
            return NONE;
        }
    }

    /** THE WAYS, found as they are asked for and kept until the books change. */
    private static final class Ways {
        private final Books books;
        /** hop[u][v]: the least STREET of least LENGTH from u to v; NONE: none leads there. */
        private final int[][] hop = new int[MOST_CROSSINGS][MOST_CROSSINGS];
        /** For each CROSSING those from which a STREET leads to it, as bits. */
        private final long[] into = new long[MOST_CROSSINGS];
        /** gap[v][u]: LENGTH of THE WAY from u to v, once v is measured; FAR: there is none. */
        private final int[][] gap = new int[MOST_CROSSINGS][MOST_CROSSINGS];
        private long measured = 0L;
        private boolean ready = false;

        Ways(Books books) {
            this.books = books;
        }

        void forget() {
            ready = false;
        }

        /** Finds what leads from where to where; areJoined() is only asked behind it. */
        void prepare() {
            if (ready) {
                return;
            }
            for (int c = 0; c < MOST_CROSSINGS; c++) {
                Arrays.fill(hop[c], NONE);
            }
            Arrays.fill(into, 0L);
            for (int s = 0; s < books.streets.size; s++) {
                int a = books.streets.get(s, END_A);
                int b = books.streets.get(s, END_B);
                if (books.streets.get(s, SHUT) == 0) {
                    offer(a, b, s);
                    if (books.streets.get(s, ONE_WAY) == 0) {
                        offer(b, a, s);
                    }
                }
            }
            measured = 0L;
            ready = true;
        }

        private void offer(int from, int to, int street) {
            if (from < 0 || from >= MOST_CROSSINGS || to < 0 || to >= MOST_CROSSINGS) {
                return;
            }
            int held = hop[from][to];
            if (held == NONE || books.streets.get(street, LENGTH) < books.streets.get(held, LENGTH)) {
                hop[from][to] = street;
                into[to] |= 1L << from;
            }
        }

        /** Measures THE WAYS to each of these CROSSINGS (as bits); between() is only asked behind it. */
        void measureEach(long goals) {
            prepare();
            for (int c = 0; c < books.crossings && c < MOST_CROSSINGS; c++) {
                if (((goals & ~measured) >> c & 1L) == 1L) {
                    measure(c);
                }
            }
            measured |= goals;
        }

        /** From the goal back: a CROSSING is settled when no other one of the border is nearer. */
        private void measure(int goal) {
            int[] row = gap[goal];
            Arrays.fill(row, FAR);
            row[goal] = 0;
            long border = 1L << goal;
            long settled = 0L;
            for (int k = 0; k < MOST_CROSSINGS && border != 0L; k++) {
                int nearest = nearestOf(row, border);
                border ^= 1L << nearest;
                settled |= 1L << nearest;
                long fresh = into[nearest] & ~settled;
                border |= fresh;
                for (int j = 0; j < MOST_CROSSINGS && fresh != 0L; j++) {
                    int c = lowest(fresh);
                    fresh &= fresh - 1L;
                    row[c] = Math.min(row[c], row[nearest] + books.streets.get(hop[c][nearest], LENGTH));
                }
            }
        }

        /** Of CROSSINGS as bits, which are not none. */
        private static int nearestOf(int[] row, long border) {
            int nearest = lowest(border);
            long others = border & border - 1L;
            for (int k = 0; k < MOST_CROSSINGS && others != 0L; k++) {
                int c = lowest(others);
                others &= others - 1L;
                if (row[c] < row[nearest]) {
                    nearest = c;
                }
            }
            return nearest;
        }

        /** LENGTH of THE WAY to a CROSSING that was measured; FAR: there is none. */
        int between(int from, int to) {
            boolean are = from >= 0 && from < MOST_CROSSINGS && to >= 0 && to < MOST_CROSSINGS;
            return are ? gap[to][from] : FAR;
        }

        /** The first STREET of THE WAY to a CROSSING that was measured; NONE: it has none. */
        int nextStreet(int from, int to) {
            int length = between(from, to);
            if (length == 0 || length >= FAR) {
                return NONE;
            }
            for (int c = 0; c < MOST_CROSSINGS; c++) {
                int street = hop[from][c];
                if (street != NONE && books.streets.get(street, LENGTH) + gap[to][c] == length) {
                    return street;
                }
            }
            return NONE;
        }

        /** The i-th STREET of THE WAY to a CROSSING that was measured; NONE: none such. */
        int streetAt(int from, int to, int i) {
            if (i < 0 || i >= MOST_CROSSINGS) {
                return NONE;
            }
            int c = from;
            int street = nextStreet(c, to);
            for (int k = 0; k < i && street != NONE; k++) {
                c = books.otherEnd(street, c);
                street = nextStreet(c, to);
            }
            return street;
        }

        /** Whether an OPEN STREET joins the two, whatever its way. */
        boolean areJoined(int c, int d) {
            boolean are = c >= 0 && c < MOST_CROSSINGS && d >= 0 && d < MOST_CROSSINGS;
            return are && (hop[c][d] != NONE || hop[d][c] != NONE);
        }
    }

    /** The ODD CROSSINGS and how they are PAIRED. */
    private static final class Pairing {
        private final Books books;
        private final Ways ways;
        private final int[] odds = new int[MOST_CROSSINGS];
        private int many = 0;
        private boolean listed = false;
        /** THE WAYS between the ODD CROSSINGS, and LEAST of each set of them, as bits: if they are MOST_EXACT or less. */
        private final int[][] gaps = new int[MOST_EXACT][MOST_EXACT];
        private int[] table = new int[1];
        private boolean tabled = false;
        /** The PAIRS that pairUp() made, the lesser CROSSING in ones. */
        final int[] ones = new int[MOST_PAIRS];
        final int[] others = new int[MOST_PAIRS];
        int pairs = 0;
        int exchanges = 0;

        Pairing(Books books, Ways ways) {
            this.books = books;
            this.ways = ways;
        }

        void forget() {
            listed = false;
            tabled = false;
        }

        /** Finds the ODD CROSSINGS: how many there are. All else is only asked behind it. */
        int list() {
            if (listed) {
                return many;
            }
            long odd = oddBits();
            many = 0;
            for (int c = 0; c < MOST_CROSSINGS; c++) {
                if ((odd >> c & 1L) == 1L) {
                    odds[many] = c;
                    many++;
                }
            }
            listed = true;
            return many;
        }

        long oddBits() {
            long odd = 0L;
            for (int s = 0; s < books.streets.size; s++) {
                if (books.sidesDue(s) == 1) {
                    odd ^= 1L << books.streets.get(s, END_A);
                    odd ^= 1L << books.streets.get(s, END_B);
                }
            }
            return odd;
        }

        int oddAt(int i) {
            return i >= 0 && i < many ? odds[i] : NONE;
        }

        /** LEAST of a set, once fillTable() was there; FAR: it cannot be PAIRED. */
        int leastOf(int set) {
            return set >= 0 && set < table.length ? table[set] : FAR;
        }

        /** Needs THE WAYS to all ODD CROSSINGS measured. */
        void fillTable() {
            if (tabled || many > MOST_EXACT) {
                return;
            }
            for (int i = 0; i < many; i++) {
                for (int j = i + 1; j < many; j++) {
                    gaps[i][j] = ways.between(odds[i], odds[j]);
                }
            }
            int sets = 1 << many;
            if (sets > table.length) {
                table = new int[sets];
            }
            table[0] = 0;
            for (int set = 1; set < sets; set++) {
                table[set] = Integer.bitCount(set) % 2 == 0 ? leastByPartner(set) : FAR;
            }
            tabled = true;
        }

        /** Once all lesser sets stand in the table. */
        private int leastByPartner(int set) {
            int first = lowest(set);
            int rest = set & set - 1;
            int least = FAR;
            for (int j = first + 1; j < many; j++) {
                if ((rest >> j & 1) == 1) {
                    least = Math.min(least, gaps[first][j] + table[rest ^ 1 << j]);
                }
            }
            return least;
        }

        /**
         * For round(), with THE WAYS to all ODD CROSSINGS measured. JOINING makes TIMES more by twos:
         * the same CROSSINGS are ODD behind it.
         */
        void pairUp() {
            list();
            pairs = 0;
            exchanges = 0;
            if (many <= MOST_EXACT) {
                fillTable();
                pairExactly();
            } else {
                pairInOrder();
                exchangeAll();
            }
        }

        private void pairExactly() {
            int set = (1 << many) - 1;
            for (int k = 0; k < MOST_EXACT && set != 0; k++) {
                int partner = firstPartner(set);
                if (partner == NONE) {
                    return;
                }
                addPair(odds[lowest(set)], odds[partner]);
                set = set & set - 1 ^ 1 << partner;
            }
        }

        private int firstPartner(int set) {
            int first = lowest(set);
            int rest = set & set - 1;
            for (int j = first + 1; j < many; j++) {
                if ((rest >> j & 1) == 1 && gaps[first][j] + table[rest ^ 1 << j] == table[set]) {
                    return j;
                }
            }
            return NONE;
        }

        private void pairInOrder() {
            for (int i = 0; i + 1 < many; i += 2) {
                addPair(odds[i], odds[i + 1]);
            }
        }

        private void addPair(int one, int other) {
            if (pairs < MOST_PAIRS) {
                ones[pairs] = one;
                others[pairs] = other;
                pairs++;
            }
        }

        private void exchangeAll() {
            while (exchanges < MOST_EXCHANGES && exchangeFirst()) {
                exchanges++;
            }
        }

        private boolean exchangeFirst() {
            for (int i = 0; i < pairs; i++) {
                for (int j = i + 1; j < pairs; j++) {
                    if (exchange(i, j)) {
                        return true;
                    }
                }
            }
            return false;
        }

        /** No STREET is ONE WAY here, so that THE WAYS are as long from either end. */
        private boolean exchange(int i, int j) {
            int p = ones[i];
            int q = others[i];
            int r = ones[j];
            int s = others[j];
            int length = ways.between(p, q) + ways.between(r, s);
            if (ways.between(p, r) + ways.between(q, s) < length) {
                stand(i, p, r);
                stand(j, q, s);
                return true;
            }
            if (ways.between(p, s) + ways.between(q, r) < length) {
                stand(i, p, s);
                stand(j, q, r);
                return true;
            }
            return false;
        }

        private void stand(int i, int c, int d) {
            ones[i] = Math.min(c, d);
            others[i] = Math.max(c, d);
        }
    }

    /** Makes a ROUND beside the books, which have it only if it is not refused. */
    private static final class Planner {
        private final Books books;
        private final Ways ways;
        private final Pairing pairing;
        private final Table drives = new Table(DRIVE_COLUMNS, 16);
        private final int[] facts = new int[FACTS];
        private final int[] partners = new int[MOST_CROSSINGS];
        /** The ends of each STREET, copied because DRIVES are sought by looking at them very often. */
        private final int[] endA = new int[MOST_STREETS];
        private final int[] endB = new int[MOST_STREETS];
        private int streets = 0;
        /** How often each STREET is still to be driven, in (A). */
        private final int[] left = new int[MOST_STREETS];
        /** How many SIDES of each STREET the DRIVES so far have not cleared. */
        private final int[] due = new int[MOST_STREETS];
        /** For each CROSSING those that a STREET that is left joins to it, as bits. */
        private final long[] near = new long[MOST_CROSSINGS];
        /** Where the DRIVES so far have come to. */
        private int place = DEPOT;

        Planner(Books books, Ways ways, Pairing pairing) {
            this.books = books;
            this.ways = ways;
            this.pairing = pairing;
        }

        void handTo(Books taker) {
            facts[COUNT] = drives.size;
            taker.drives.become(drives);
            System.arraycopy(facts, 0, taker.facts, 0, FACTS);
            System.arraycopy(partners, 0, taker.partners, 0, MOST_CROSSINGS);
        }

        private void begin(int made) {
            drives.size = 0;
            place = DEPOT;
            Arrays.fill(facts, 0);
            facts[MADE] = made;
            Arrays.fill(partners, NONE);
            streets = Math.min(books.streets.size, MOST_STREETS);
            for (int s = 0; s < streets; s++) {
                endA[s] = books.streets.get(s, END_A);
                endB[s] = books.streets.get(s, END_B);
                due[s] = books.sidesDue(s);
                left[s] = due[s];
            }
        }

        /** 0, or FULL. */
        private int addDrive(int street, boolean clears) {
            if (drives.size >= MOST_DRIVES) {
                return FULL;
            }
            int to = endA[street] == place ? endB[street] : endA[street];
            int i = drives.add();
            drives.put(i, STREET, street);
            drives.put(i, FROM, place);
            drives.put(i, TO, to);
            drives.put(i, CLEARS, clears ? 1 : 0);
            facts[ALONG] += books.streets.get(street, LENGTH);
            if (clears) {
                facts[CLEARING]++;
                due[street]--;
            }
            place = to;
            return 0;
        }

        // (A)

        /** 0, or why there is no ROUND. */
        int planBothWays() {
            begin(MADE_BY_A);
            long touched = lookAtLeft();
            ways.measureEach(touched & ~reachedFrom(DEPOT) | pairing.oddBits());
            if (!joinAll()) {
                return NO;
            }
            pairing.pairUp();
            addPairs();
            int total = 0;
            for (int s = 0; s < streets; s++) {
                total += left[s];
            }
            if (total > MOST_DRIVES) {
                return FULL;
            }
            driveAll(total);
            return 0;
        }

        /** Finds what is joined by what is left: the CROSSINGS there, as bits. */
        private long lookAtLeft() {
            long touched = 0L;
            Arrays.fill(near, 0L);
            for (int s = 0; s < streets; s++) {
                if (left[s] > 0) {
                    int a = endA[s];
                    int b = endB[s];
                    near[a] |= 1L << b;
                    near[b] |= 1L << a;
                    touched |= 1L << a | 1L << b;
                }
            }
            return touched;
        }

        /** The CROSSINGS that can be come to, behind lookAtLeft(), as bits. */
        private long reachedFrom(int start) {
            long seen = 1L << start;
            long todo = seen;
            for (int k = 0; k < MOST_CROSSINGS && todo != 0L; k++) {
                int c = lowest(todo);
                todo &= todo - 1L;
                todo |= near[c] & ~seen;
                seen |= near[c];
            }
            return seen;
        }

        private boolean joinAll() {
            for (int k = 0; k < MOST_CROSSINGS; k++) {
                long touched = lookAtLeft();
                long reached = reachedFrom(DEPOT);
                if ((touched & ~reached) == 0L) {
                    return true;
                }
                if (!join(reached, touched & ~reached)) {
                    return false;
                }
                facts[JOININGS]++;
            }
            return false;
        }

        private boolean join(long reached, long lost) {
            int from = NONE;
            int to = NONE;
            int length = FAR;
            for (int c = 0; c < MOST_CROSSINGS; c++) {
                for (int d = 0; d < MOST_CROSSINGS && (reached >> c & 1L) == 1L; d++) {
                    if ((lost >> d & 1L) == 1L && ways.between(c, d) < length) {
                        from = c;
                        to = d;
                        length = ways.between(c, d);
                    }
                }
            }
            if (length >= FAR) {
                return false;
            }
            addWay(from, to, 2);
            return true;
        }

        private void addPairs() {
            facts[PAIRS] = pairing.pairs;
            facts[EXCHANGES] = pairing.exchanges;
            for (int k = 0; k < pairing.pairs; k++) {
                int one = pairing.ones[k];
                int other = pairing.others[k];
                partners[one] = other;
                partners[other] = one;
                addWay(one, other, 1);
            }
        }

        private void addWay(int from, int to, int times) {
            int c = from;
            int street = ways.nextStreet(c, to);
            for (int k = 0; k < MOST_CROSSINGS && street != NONE; k++) {
                left[street] += times;
                c = books.otherEnd(street, c);
                street = ways.nextStreet(c, to);
            }
        }

        private void driveAll(int total) {
            for (int k = 0; k < total; k++) {
                int street = leave();
                if (street == NONE) {
                    return;
                }
                addDrive(street, due[street] > 0);
            }
        }

        /** The STREET of the next DRIVE, which is left once less then. */
        private int leave() {
            for (int s = 0; s < streets; s++) {
                if (left[s] > 0 && (endA[s] == place || endB[s] == place)) {
                    left[s]--;
                    long touched = lookAtLeft();
                    if ((touched & ~reachedFrom(endA[s] == place ? endB[s] : endA[s])) == 0L) {
                        return s;
                    }
                    left[s]++;
                }
            }
            return NONE;
        }

        // (B)

        /** 0, or why there is no ROUND. */
        int planOneWays() {
            begin(MADE_BY_B);
            ways.measureEach(lookAtLeft() | 1L << DEPOT);
            int sides = 0;
            for (int s = 0; s < streets; s++) {
                sides += due[s];
            }
            int why = 0;
            for (int k = 0; k < sides && why == 0; k++) {
                int start = nearestStart();
                if (start == NONE) {
                    return NO;
                }
                int street = start / 2;
                why = driveTo(start % 2 == 0 ? endA[street] : endB[street]);
                if (why == 0) {
                    why = addDrive(street, true);
                }
            }
            return why != 0 ? why : driveTo(DEPOT);
        }

        /** Twice the STREET to be cleared next, 1 more if that begins at b; NONE: no WAY leads to one. */
        private int nearestStart() {
            int start = NONE;
            int length = FAR;
            for (int s = 0; s < streets; s++) {
                if (due[s] > 0 && ways.between(place, endA[s]) < length) {
                    start = 2 * s;
                    length = ways.between(place, endA[s]);
                }
                boolean both = books.streets.get(s, ONE_WAY) == 0;
                if (due[s] > 0 && both && ways.between(place, endB[s]) < length) {
                    start = 2 * s + 1;
                    length = ways.between(place, endB[s]);
                }
            }
            return start;
        }

        /** 0, NO or FULL. */
        private int driveTo(int goal) {
            if (ways.between(place, goal) >= FAR) {
                return NO;
            }
            int why = 0;
            for (int k = 0; k < MOST_CROSSINGS && place != goal && why == 0; k++) {
                int street = ways.nextStreet(place, goal);
                why = street == NONE ? NO : addDrive(street, false);
            }
            return why;
        }
    }

    /** A PLOUGH as a TRUCK is one; other KINDS answer for themselves where they differ. */
    private static class Plough {
        final Log log;
        final int speed;
        final int reach;

        Plough(Log log, int speed, int reach) {
            this.log = log;
            this.speed = speed;
            this.reach = reach;
        }

        int takes(int length) {
            log.trace += 1;
            return speed > 0 ? (length + speed - 1) / speed : 0;
        }

        int passes(int drift) {
            log.trace += 100;
            return passesUpTo(drift, 2);
        }

        /** 1 up to REACH, then as many as that many REACHES are come to by. */
        final int passesUpTo(int drift, int more) {
            if (drift <= reach) {
                return 1;
            }
            return drift <= more * reach ? more : TOO_DEEP;
        }
    }

    private static final class Blower extends Plough {
        Blower(Log log, int speed, int reach) {
            super(log, speed, reach);
        }

        int passes(int drift) {
            log.trace += 1000;
            return passesUpTo(drift, 3);
        }
    }

    private static final class Salter extends Plough {
        Salter(Log log, int speed, int reach) {
            super(log, speed, reach);
        }

        int takes(int length) {
            log.trace += 20;
            return super.takes(length) + 2;
        }
    }

    private static final class Tractor extends Plough {
        Tractor(Log log, int speed, int reach) {
            super(log, speed, reach);
        }

        int takes(int length) {
            log.trace += 10;
            return super.takes(length) + 1;
        }
    }

    private static final class Pair extends Plough {
        private final Plough first;
        private final Plough second;

        Pair(Log log, Plough first, Plough second) {
            super(log, Math.min(first.speed, second.speed), first.reach + second.reach);
            this.first = first;
            this.second = second;
        }

        int takes(int length) {
            log.trace += 5;
            int one = first.takes(length);
            return Math.max(one, second.takes(length));
        }

        int passes(int drift) {
            log.trace += 10000;
            return passesUpTo(drift, 2);
        }
    }
}
