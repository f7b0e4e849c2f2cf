import java.io.IOException;
import java.nio.file.Files;
import java.nio.file.Path;

/** README's example answers what README says, and stands there as it is tried here. */
public final class ReadmeTest {
    private static final Bench bench = new Bench();
    private static String readme = "";

    public static void main(String[] args) throws IOException {
        readme = Files.readString(Path.of("README.md"));
        TextBridge bridge = new TextBridge();
        says("bridge.feed(0x5B312C32, 0x5D000000, 0, 0, 0);", "20:",
            bridge.feed(0x5B312C32, 0x5D000000, 0, 0, 0), 20);
        says("bridge.end(5);", "5:", bridge.end(5), 5);
        says("int size = bridge.toCbor();", "3:", bridge.toCbor(), 3);
        says("int place = bridge.errorAt();", "NONE:", bridge.errorAt(), TextBridge.NONE);
        says("int first = bridge.out(0);", "0x82:", bridge.out(0), 0x82);
        says("bridge.take();", "3:", bridge.take(), 3);
        says("int back = bridge.toJson();", "5:", bridge.toJson(), 5);
        says("bridge.end(1);", "1:", bridge.end(1), 1);
        says("int fault = bridge.toJson();", "-1:", bridge.toJson(), -1);
        says("int where = bridge.errorAt();", "1:", bridge.errorAt(), 1);
        everyTestIsNamed();
        bench.finish("ReadmeTest");
    }

    private static void says(String call, String answer, int got, int due) {
        bench.due(call, got, due);
        boolean stands = readme.lines().anyMatch(line -> line.strip().startsWith(call)
            && line.substring(line.indexOf("//") + 2).strip().startsWith(answer));
        bench.due("README has " + call + " // " + answer, stands ? 1 : 0, 1);
    }

    private static void everyTestIsNamed() throws IOException {
        try (var files = Files.list(Path.of("src/test/java"))) {
            for (Path file : files.sorted().toList()) {
                String name = file.getFileName().toString().replace(".java", "");
                bench.due("README names " + name, readme.contains("`" + name) ? 1 : 0, 1);
            }
        }
    }
}
