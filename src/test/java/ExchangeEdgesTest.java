import java.util.Arrays;
import java.util.stream.IntStream;

/** The edge of EXCHANGES: 1000 at most. A town that needs more was sought by trying, and stands here as it was found. */
public final class ExchangeEdgesTest extends Edges {
    private static final int MANY = 60, ONE_SIDE = 44;
    /** From, to, LENGTH: the first ONE_SIDE have one SIDE, so that all CROSSINGS are ODD, the others two. */
    private static final int[] STREETS = {
        36, 18, 9158, 2, 41, 3, 11, 12, 10000, 28, 45, 1, 47, 28, 7708, 9, 30, 138, 51, 39, 249, 21, 12, 10000, 59, 50, 2060,
        55, 48, 2012, 43, 6, 9257, 44, 40, 1, 22, 51, 7046, 7, 21, 5486, 1, 54, 8551, 35, 19, 7702, 43, 37, 1944, 42, 30, 10000,
        32, 51, 735, 56, 44, 1, 51, 34, 193, 14, 3, 1485, 38, 33, 4826, 21, 0, 6210, 44, 31, 4817, 14, 4, 4288, 21, 51, 1, 29, 8, 1546,
        27, 30, 1, 50, 16, 10000, 49, 21, 5681, 43, 24, 6701, 58, 53, 1142, 16, 46, 1, 16, 52, 4035, 5, 14, 3166, 10, 14, 6539,
        15, 50, 2801, 12, 26, 9633, 12, 57, 5230, 13, 14, 837, 28, 20, 5798, 12, 17, 8326, 23, 25, 1, 38, 12, 2779, 54, 13, 6006,
        30, 23, 1, 7, 46, 5522, 5, 17, 7130, 17, 38, 10000, 49, 54, 1, 44, 24, 2064, 7, 25, 10000, 50, 52, 1973, 42, 49, 400,
        18, 11, 4854, 31, 46, 4398, 45, 39, 7873, 1, 18, 4635, 18, 51, 4670, 55, 15, 6882, 44, 36, 3578, 5, 3, 2521, 0, 23, 10000,
        14, 2, 1235, 42, 46, 9810, 27, 57, 1, 33, 35, 4691, 24, 0, 9511, 25, 12, 3162, 14, 24, 4531, 14, 53, 7847, 45, 20, 3532,
        51, 30, 3719, 37, 22, 5505, 41, 4, 3076, 52, 27, 9262, 5, 18, 4612, 1, 23, 2849, 59, 6, 7692, 34, 39, 107, 54, 52, 2175,
        22, 27, 10000, 17, 57, 4738, 27, 10, 5032, 17, 58, 6123, 15, 57, 4771, 40, 27, 10000, 15, 48, 2491, 2, 11, 4349, 18, 45, 9538,
        46, 18, 3387, 26, 59, 1834, 38, 46, 110, 55, 19, 803, 20, 59, 3353, 57, 41, 57, 16, 27, 4930, 24, 16, 2823, 40, 44, 5663,
        6, 35, 7419, 38, 26, 2246, 13, 28, 21, 21, 1, 2280, 4, 16, 3960, 0, 47, 10000, 34, 8, 4657, 0, 36, 10000, 16, 10, 4637,
        27, 50, 1680, 46, 19, 7563, 0, 14, 3833, 9, 46, 1344, 37, 55, 28, 18, 44, 2724, 32, 42, 728, 6, 41, 4444, 29, 11, 10000,
        7, 55, 5738, 47, 29, 3552, 13, 56, 7920, 5, 6, 10000, 31, 54, 3794, 25, 19, 4277, 46, 45, 965, 22, 54, 6353, 3, 17, 5929,
        50, 2, 1740, 8, 52, 164, 49, 40, 1, 45, 3, 651, 20, 27, 3191, 34, 11, 2246, 56, 39, 70, 13, 51, 4471, 46, 15, 4583,
        38, 43, 4781, 25, 24, 10000, 27, 5, 1946, 45, 42, 2584, 53, 55, 5756, 49, 11, 2129, 47, 21, 4164, 13, 11, 3935, 45, 9, 402,
        28, 1, 6273, 39, 8, 3409, 5, 46, 1438, 20, 48, 8415, 51, 26, 2012};
    private static final Town TOWN = and(crossings(MANY), x -> {
        for (int s = 0; s < STREETS.length / 3; s++) {
            x.street(STREETS[3 * s], STREETS[3 * s + 1], STREETS[3 * s + 2], false);
        }
        for (int s = ONE_SIDE; s < STREETS.length / 3; s++) {
            x.sides(s, 2);
        }
        return 0;
    });

    private final int[][] ways = new int[MANY][MANY];
    private final int[][] pairs;
    private int exchanges = 0;

    public static void main(String[] args) {
        aThousandAtMost();
        asLongAsThereAreSuch();
        end();
    }

    private static void aThousandAtMost() {
        says("Terms 4", "then, as long as there are such, but 1000 times at most");
        ExchangeEdgesTest most = new ExchangeEdgesTest(1000, 0);
        due(1000, most.exchanges);
        // the town is one that tells: with one more, and with one fewer, the PAIRS are others
        dueAll("as many as there are", "false", "" + most.same(new ExchangeEdgesTest(1001, 0)));
        dueAll("one fewer", "false", "" + most.same(new ExchangeEdgesTest(999, 0)));
        PloughDepot x = made(and(TOWN, PloughDepot::round));
        most.duePairs(x);
        change(TOWN, x.length(0), PloughDepot::round);
    }

    private static void asLongAsThereAreSuch() {
        says("Terms 4", "as long as there are such");
        // STREETS 0, 1, .. with two SIDES one behind the other: fewer and fewer CROSSINGS are ODD, and it ends by itself
        for (int many = 1; many <= 20; many++) {
            int twoSides = many;
            PloughDepot x = made(and(TOWN, PloughDepot::round, y -> {
                for (int s = 0; s < twoSides; s++) {
                    y.sides(s, 2);
                }
                return y.round();
            }));
            ExchangeEdgesTest fewer = new ExchangeEdgesTest(1000, many);
            due(1, fewer.exchanges < 1000 && fewer.pairs.length > 7 ? 1 : 0);
            fewer.duePairs(x);
        }
    }

    /** The document's words about more than 14 ODD CROSSINGS once more: so many EXCHANGES at most, so many STREETS of two SIDES ahead. */
    private ExchangeEdgesTest(int most, int twoSides) {
        measure();
        int[] odds = odds(twoSides);
        pairs = new int[odds.length / 2][];
        for (int k = 0; k < pairs.length; k++) {
            pairs[k] = new int[] {odds[2 * k], odds[2 * k + 1]};
        }
        while (exchanges < most && exchanged()) {
            exchanges++;
        }
    }

    private static int[] odds(int twoSides) {
        int[] sums = new int[MANY];
        for (int s = twoSides; s < ONE_SIDE; s++) {
            sums[STREETS[3 * s]]++;
            sums[STREETS[3 * s + 1]]++;
        }
        return IntStream.range(0, MANY).filter(c -> sums[c] % 2 == 1).toArray();
    }

    private void duePairs(PloughDepot x) {
        due(exchanges, x.length(4));
        due(pairs.length, x.length(5));
        int[] partners = new int[MANY];
        Arrays.fill(partners, NONE);
        for (int[] pair : pairs) {
            partners[pair[0]] = pair[1];
            partners[pair[1]] = pair[0];
        }
        for (int c = 0; c < MANY; c++) {
            due(partners[c], x.partner(c));
        }
    }

    private void measure() {
        for (int[] row : ways) {
            Arrays.fill(row, 1000000);
        }
        for (int s = 0; s < STREETS.length; s += 3) {
            int a = STREETS[s];
            int b = STREETS[s + 1];
            ways[a][b] = ways[b][a] = Math.min(ways[a][b], STREETS[s + 2]);
        }
        for (int c = 0; c < MANY; c++) {
            for (int from = 0; from < MANY; from++) {
                for (int to = 0; to < MANY; to++) {
                    ways[from][to] = Math.min(ways[from][to], ways[from][c] + ways[c][to]);
                }
            }
        }
    }

    private boolean exchanged() {
        for (int i = 0; i < pairs.length; i++) {
            for (int j = i + 1; j < pairs.length; j++) {
                int[] first = pairs[i];
                int[] second = pairs[j];
                if (stands(i, j, first[0], second[0], first[1], second[1]) || stands(i, j, first[0], second[1], first[1], second[0])) {
                    return true;
                }
            }
        }
        return false;
    }

    /** Whether (p, q) and (r, s) are less together than what stands at i and j, and stand there then. */
    private boolean stands(int i, int j, int p, int q, int r, int s) {
        if (ways[p][q] + ways[r][s] >= ways[pairs[i][0]][pairs[i][1]] + ways[pairs[j][0]][pairs[j][1]]) {
            return false;
        }
        pairs[i] = new int[] {Math.min(p, q), Math.max(p, q)};
        pairs[j] = new int[] {Math.min(r, s), Math.max(r, s)};
        return true;
    }

    private boolean same(ExchangeEdgesTest other) {
        return Arrays.deepEquals(pairs, other.pairs);
    }
}
