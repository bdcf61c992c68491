import java.lang.management.ManagementFactory;

/** All that one run of 512 calls makes, its dearest calls again and again, stays far below the one room that it lives in. */
public final class RoomTest {
    /** The room has 7.3 million fields and elements; none is smaller than a char, most are ints. */
    private static final long MOST_OF_A_RUN = 2L * 1000 * 1000;
    private static final long MOST_OF_AN_OBJECT = 60L * 1000;

    private static long made() {
        return ((com.sun.management.ThreadMXBean) ManagementFactory.getThreadMXBean()).getCurrentThreadAllocatedBytes();
    }

    public static void main(String[] args) {
        boolean wrong = false;
        new PloughDepot().digest();
        long start = made();
        PloughDepot x = new PloughDepot();
        long object = made() - start;
        System.out.println("a new object: " + object + " bytes");
        wrong |= object > MOST_OF_AN_OBJECT;
        wrong |= tooMuch("a town by (A)", townByA(false));
        wrong |= tooMuch("a town by (A), 14 odd", townByA(true));
        wrong |= tooMuch("a town by (B)", townByB());
        wrong |= tooMuch("gauges", gauges());
        if (wrong) {
            System.out.println("that is too much");
            System.exit(1);
        }
        x.digest();
    }

    private static boolean tooMuch(String what, long bytes) {
        System.out.println(what + ": " + bytes + " bytes");
        return bytes > MOST_OF_A_RUN;
    }

    private static long townByA(boolean few) {
        long start = made();
        PloughDepot x = new PloughDepot();
        int calls = 3;
        for (int k = 0; k < 3; k++) {
            x.crossings(20);
        }
        for (int s = 0; s < 150; s++, calls++) {
            int a = s % 60;
            x.street(a, (a + 1 + s / 60 * 7) % 60, 1 + s * 37 % 100, false);
        }
        for (int s = 0; s < 150 && few; s++, calls++) {
            x.sides(s, s < 14 && s % 2 == 0 ? 1 : 2);
        }
        for (int p = 0; p < 12; p++, calls++) {
            x.plough(p % 4, 9000);
        }
        while (calls < 512) {
            x.round();
            x.split();
            x.go(0, 50);
            x.text();
            x.least(3);
            x.undo();
            calls += 6;
        }
        return made() - start;
    }

    private static long townByB() {
        long start = made();
        PloughDepot x = new PloughDepot();
        x.crossings(20);
        int calls = 1;
        for (int c = 1; c < 20; c++, calls += 2) {
            x.street(c, (c + 1) % 20, 1, true);
            x.sides(c - 1, 0);
        }
        for (int k = 0; k < 50; k++, calls += 2) {
            x.street(0, 1, 1, true);
            x.sides(19 + k, 2);
        }
        for (int p = 0; p < 12; p++, calls++) {
            x.plough(p % 4, 9000);
        }
        while (calls < 512) {
            x.round();
            x.split();
            x.text();
            x.go(0, 50);
            calls += 4;
        }
        return made() - start;
    }

    private static long gauges() {
        long start = made();
        PloughDepot x = new PloughDepot();
        x.crossings(20);
        int calls = 1;
        for (int g = 0; g < 20; g++, calls++) {
            x.gauge(g, g % 2 == 0);
        }
        for (int k = 0; calls < 512; k++) {
            x.row(k % 20, 200);
            x.copies(0, 100, 100);
            x.snow(k % 200);
            x.lose(k % 7);
            x.undo();
            calls += 5;
        }
        return made() - start;
    }
}
