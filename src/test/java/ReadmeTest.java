import java.io.ByteArrayOutputStream;
import java.io.IOException;
import java.io.PrintStream;
import java.nio.file.Files;
import java.nio.file.Path;
import java.util.ArrayList;
import java.util.List;

/** The example of README.md is the one below, it prints what README.md says, and every call is named there. */
public final class ReadmeTest {
    private static final String SOURCE = "src/test/java/ReadmeTest.java";
    private static final String BEGIN = "// The example of README.md begins.";
    private static final String END = "// The example of README.md ends.";
    private static final String[] CALLS = {
        "say(w, p, q, r)", "gram(u, v, w, cost, backoff)", "ungram(u, v, w)", "after(u, v, w)",
        "topology(s, hold, leave)", "frame()", "drop()", "sound(t, phone, state, c)", "frames()", "nodes()",
        "total()", "length()", "wordAt(i)", "live(n)", "best(n)"};

    private static int wrong = 0;

    private static void example() {
        // The example of README.md begins.
        WordTokenPasser x = new WordTokenPasser();
        int none = WordTokenPasser.NONE;
        int edge = 4;

        x.say(0, 0, 1, none);              // word 0 is said with the phones 0, 1
        x.say(1, 2, none, none);           // word 1 with the phone 2 alone

        x.gram(none, none, 0, 10, 5);      // word 0 by itself: cost 10, backoff 5
        x.gram(none, none, 1, 12, 0);
        x.gram(none, none, edge, 2, 4);    // the edge, before the first word and after the last
        x.gram(none, 0, 1, 1, 0);          // word 1 after word 0 costs 1

        for (int s = 0; s < 3; s++) {
            x.topology(s, 2, 1);           // holding a state costs 2, leaving it 1
        }
        for (int t = 0; t < 9; t++) {
            x.frame();
        }
        x.sound(0, 2, 0, 50);              // frame 0 is not like the beginning of phone 2
        x.sound(8, 1, 2, 50);              // frame 8 is not like the end of phone 1

        System.out.println("cost " + x.total());
        for (int i = 0; i < x.length(); i++) {
            System.out.println("word " + x.wordAt(i));
        }
        System.out.println("places after 4 frames " + x.live(4));
        System.out.println("least cost after 4 frames " + x.best(4));
        // The example of README.md ends.
    }

    /** The lines between the first line that is begin and the next that is end, without the spaces round them. */
    private static List<String> between(List<String> lines, String begin, String end) {
        List<String> found = new ArrayList<>();
        boolean inside = false;
        for (String line : lines) {
            if (inside && line.strip().equals(end)) {
                return found;
            }
            if (inside) {
                found.add(line.strip());
            }
            inside = inside || line.strip().equals(begin);
        }
        return List.of();
    }

    private static List<String> printed() {
        PrintStream screen = System.out;
        ByteArrayOutputStream bytes = new ByteArrayOutputStream();
        System.setOut(new PrintStream(bytes, true));
        try {
            example();
        } finally {
            System.setOut(screen);
        }
        return bytes.toString().lines().toList();
    }

    private static void same(String name, List<String> got, List<String> due) {
        if (got.isEmpty() || !got.equals(due)) {
            wrong++;
            System.out.println(name + ":\n  " + String.join("\n  ", got));
            System.out.println("due is:\n  " + String.join("\n  ", due));
        }
    }

    public static void main(String[] args) throws IOException {
        List<String> readme = Files.readAllLines(Path.of("README.md"));
        List<String> source = Files.readAllLines(Path.of(SOURCE));
        same("the example of README.md", between(readme, "```java", "```"), between(source, BEGIN, END));
        same("what README.md says it prints", between(readme, "```text", "```"), printed());
        for (String call : CALLS) {
            if (readme.stream().noneMatch(line -> line.startsWith("| `" + call + "` |"))) {
                wrong++;
                System.out.println("README.md does not tell of " + call);
            }
        }
        System.out.println(wrong == 0 ? "README.md holds" : wrong + " things in README.md do not hold");
        if (wrong != 0) {
            System.exit(1);
        }
    }
}
