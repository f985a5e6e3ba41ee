import java.io.IOException;
import java.nio.file.Files;
import java.nio.file.Path;
import java.util.List;
import java.util.regex.Matcher;
import java.util.regex.Pattern;
import java.util.stream.Collectors;
import java.util.stream.Stream;

/** README.md: its calls, made one behind the other, answer what stands behind them, and its table names each test. */
public final class ReadmeTest {
    // x.judge(0, 0);    // 1: ..
    private static final Pattern CALL = Pattern.compile("x\\.(\\w+)\\(([^)]*)\\);(?:\\s*// (-?\\d+): .*)?.*");

    public static void main(String[] args) throws IOException {
        List<String> lines = Files.readAllLines(Path.of("README.md"));
        makeCalls(lines);
        nameTests(String.join("\n", lines));
        Probe.finish();
    }

    private static void makeCalls(List<String> lines) {
        ItemJudge x = new ItemJudge();
        int answers = 0;
        for (String line : lines) {
            Matcher call = CALL.matcher(line);
            if (!call.matches()) continue;
            long answer = made(x, call.group(1), numbers(call.group(2)));
            if (call.group(3) == null) continue;
            Probe.due(line, answer, Long.parseLong(call.group(3)));
            answers++;
        }
        Probe.due("calls with an answer in README.md", answers >= 10 ? 1 : 0, 1);
    }

    private static int[] numbers(String words) {
        if (words.isEmpty()) return new int[0];
        return Stream.of(words.split(", ")).mapToInt(word -> (int) (long) Long.decode(word)).toArray();
    }

    private static long made(ItemJudge x, String name, int[] n) {
        switch (name) {
            case "feed": return x.feed(n[0], n[1], n[2], n[3], n[4]);
            case "end": return x.end(n[0]);
            case "grammar": return x.grammar();
            case "place": return x.place();
            case "rule": return x.rule(n[0], n[1]);
            case "item": return x.item();
            case "node": return x.node(n[0], n[1]);
            case "judge": return x.judge(n[0], n[1]);
            case "write": return x.write(n[0]);
            case "shorten": return x.shorten(n[0]);
            default: return x.out(n[0]);
        }
    }

    private static void nameTests(String readme) throws IOException {
        try (Stream<Path> files = Files.list(Path.of("src/test/java"))) {
            for (Path file : files.sorted().collect(Collectors.toList())) {
                String name = file.getFileName().toString().replace(".java", "");
                if (name.endsWith("Test")) Probe.due("README.md names " + name, readme.contains("`" + name + "`") ? 1 : 0, 1);
            }
        }
    }
}
