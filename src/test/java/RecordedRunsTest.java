import java.nio.file.Files;
import java.nio.file.Path;
import java.util.Arrays;
import java.util.List;
import java.util.TreeSet;

/**
 * Runs whose answers were worked out by a third writing of the document, in another language, which shares no code with
 * the class or with DepotModel (who wrote it had read the class before). Each line is a call and the answer that is due.
 */
public final class RecordedRunsTest {
    private static final Path RUNS = Path.of("src/test/runs/recorded.txt");

    public static void main(String[] args) throws Exception {
        List<String> lines = Files.readAllLines(RUNS);
        TreeSet<String> called = new TreeSet<>();
        PloughDepot depot = new PloughDepot();
        int runs = 0;
        int wrong = 0;
        for (int i = 0; i < lines.size(); i++) {
            if (lines.get(i).equals("new")) {
                depot = new PloughDepot();
                runs++;
                continue;
            }
            String[] sides = lines.get(i).split(" = ");
            String[] call = sides[0].split(" ");
            called.add(call[0]);
            int got = Calls.answer(depot, call[0], Arrays.copyOfRange(call, 1, call.length));
            if (got != Integer.parseInt(sides[1])) {
                wrong++;
                System.out.println("run " + runs + ", line " + (i + 1) + ": " + sides[0] + " answered " + got + ", due is " + sides[1]);
            }
        }
        boolean all = called.size() == Calls.howMany();
        System.out.println(wrong == 0 && all ? runs + " runs, " + (lines.size() - runs) + " answers are as due"
            : wrong + " answers are not as due; calls that the runs have: " + called);
        if (wrong != 0 || !all) {
            System.exit(1);
        }
    }
}
