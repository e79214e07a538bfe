import java.io.IOException;
import java.nio.file.Files;
import java.nio.file.Path;
import java.util.ArrayList;
import java.util.List;

/** The example of README.md: its calls are these, in this order, and answer what stands behind them. */
public final class ReadmeTest {
    private static final double NOT_POSSIBLE = HexBilliards.NOT_POSSIBLE;
    private static final double NONE = HexBilliards.NONE;

    private static final List<String> made = new ArrayList<>();

    public static void main(String[] args) throws IOException {
        HexBilliards felt = new HexBilliards();
        call("felt.cell(0, 0);", felt.cell(0, 0), 30, "30");
        call("felt.put(30, 7);", felt.put(30, 7), 0, "0");
        call("felt.would(0, 0, 20, 0, 3);", felt.would(0, 0, 20, 0, 3), 0, "0");
        call("felt.would(0, 0, 20, 0, 0);", felt.would(0, 0, 20, 0, 0), 4, "4");
        call("felt.speedLeft(0, 3, 10, 0);", felt.speedLeft(0, 3, 10, 0), 0.9f, "0.9f");
        call("felt.shoot(0, 0, 0, 20, 0);", felt.shoot(0, 0, 0, 20, 0), 7, "7");
        call("felt.count(3);", felt.count(3), 7, "7");
        undone(felt);
        opened(felt);
        typed(felt);
        Check.holds("README.md makes the calls " + made, inReadme().equals(made));
        Check.end("ReadmeTest");
    }

    private static void undone(HexBilliards felt) {
        // put and shoot had recorded two states: one is left.
        call("felt.undo();", felt.undo(), 1, "1");
        Check.due("ball 0 is back on", felt.ball(0, 0), 30);
        call("felt.pass(0);", felt.pass(0), 0, "0");
        call("felt.shoot(0, 0, 0, 20, 0);", felt.shoot(0, 0, 0, 20, 0), NOT_POSSIBLE, "NOT_POSSIBLE");
        call("felt.best(20, 0, 1);", felt.best(20, 0, 1), 0, "0");
    }

    private static void opened(HexBilliards felt) {
        call("felt.keep();", felt.keep(), 1, "1");
        call("felt.setPots(0);", felt.setPots(0), 63, "63");
        call("felt.best(20, 0, 1);", felt.best(20, 0, 1), NONE, "NONE");
        call("felt.along(30, 0, 6, false);", felt.along(30, 0, 6, false), 32, "32");
    }

    private static void typed(HexBilliards felt) {
        call("felt.type('0');", felt.type('0'), 1, "1");
        call("felt.type(':');", felt.type(':'), 2, "2");
        call("felt.putAll();", felt.putAll(), -102, "-102");
        call("felt.type('9');", felt.type('9'), 3, "3");
        call("felt.putAll();", felt.putAll(), 1, "1");
        Check.due("the ball on cell 0", felt.ofCell(0, 2), 1);
        call("felt.restore();", felt.restore(), 1, "1");
        Check.due("the pots are open again", felt.count(10), 63);
    }

    private static void call(String call, double got, double want, String told) {
        Check.due(call, got, want);
        made.add(call + " " + told);
    }

    /** The calls of the example, each with the first word of what stands behind it. */
    private static List<String> inReadme() throws IOException {
        List<String> calls = new ArrayList<>();
        for (String line : Files.readAllLines(Path.of("README.md"))) {
            int behind = line.indexOf("//");
            if (line.startsWith("felt.") && behind > 0) {
                String told = line.substring(behind + 2).trim().replaceFirst(":? .*", "");
                calls.add(line.substring(0, behind).trim() + " " + told);
            }
        }
        return calls;
    }
}
