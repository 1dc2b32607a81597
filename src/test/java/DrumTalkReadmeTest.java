import java.io.IOException;
import java.nio.file.Files;
import java.nio.file.Path;
import java.util.ArrayList;
import java.util.List;

/** The example of README.md: each of its calls stands there as here, and answers what is written behind it. */
public final class DrumTalkReadmeTest extends Checks {
    private static final List<String> LINES = new ArrayList<>();

    public static void main(String[] args) throws IOException {
        // .ci/run starts the tests where README.md stands.
        for (String line : Files.readAllLines(Path.of("README.md"))) {
            LINES.add(line.strip());
        }
        test(DrumTalkReadmeTest::theExample);
        end();
    }

    private static void theExample() {
        part("README.md, the example");
        DrumTalk land = new DrumTalk();
        int from = land.found(0, 0, 2);
        written("int from = land.found(0, 0, 2);", from, 0);
        int to = land.found(6, 0, 3);
        written("int to = land.found(6, 0, 3);", to, 1);
        int phrase = land.phrase(121);
        written("int phrase = land.phrase(121);", phrase, 0);
        written("land.tell(from, phrase);", land.tell(from, phrase), 1);
        written("land.reaches(to, phrase);", land.reaches(to, phrase), 6);
        written("land.pass(6);", land.pass(6), 1);
        written("land.knows(to, phrase);", land.knows(to, phrase), 5);
    }

    private static void written(String call, long got, long want) {
        due(call, got, want);
        boolean there = false;
        for (String line : LINES) {
            int behind = line.indexOf("// " + want + ":");
            there |= line.startsWith(call) && behind > 0 && line.substring(call.length(), behind).isBlank();
        }
        due(call + " stands in README.md with // " + want + ":", there, true);
    }
}
