import java.io.File;
import java.io.IOException;
import java.nio.file.Files;
import java.util.List;

/**
 * Carries out the steps that README.md shows: a text, the call that reads it, its answer, the page then, and
 * behind a semicolon what a reader is told. The project's directory is handed over as the system property root.
 */
public final class ReadmeTest {
    private static final Talk TALK = new Talk();

    public static void main(String[] args) throws IOException {
        List<String> lines = Files.readAllLines(new File(System.getProperty("root"), "README.md").toPath());
        int steps = 0;
        boolean shown = false;
        for (String line : lines) {
            if (line.startsWith("```")) {
                shown = line.equals("```text");
            } else if (shown) {
                carryOut(line.split(";")[0].trim().split("\\s+"));
                steps++;
            }
        }
        Report.due("steps in README.md", steps, 13);
        Report.finish();
    }

    private static void carryOut(String[] step) {
        Report.due(step[0] + " " + step[1], answer(step[1], step[0]), Integer.parseInt(step[2]));
        if (step.length > 3) {
            Report.due("the page after " + step[0], TALK.page(), step[3]);
        }
    }

    private static int answer(String call, String text) {
        char letter = call.endsWith(")") ? call.charAt(call.length() - 2) : ' ';
        switch (call.split("\\(")[0]) {
            case "declare":
                return TALK.declare(letter, text);
            case "program":
                return TALK.program(letter, text);
            case "run":
                return TALK.run(letter, text);
            case "check":
                return TALK.check(text);
            default:
                throw new AssertionError("no such call: " + call);
        }
    }
}
